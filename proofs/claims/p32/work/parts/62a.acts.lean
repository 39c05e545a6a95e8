/-! THE LAW OF p32: what it does at a turn, case by case: a new pane, the window's size, a least size -/
section LA
variable {X : Cx} {Po : Option Value → Sh → Nat → Mem → Lam → Prop} {S : Sh} {n : Nat} {mu : Mem} {la : Lam} {w o : Nat} {z : Int32} {ww a b was : Int}
set_option maxRecDepth 20000 in
theorem ggL_acts_L_low : GoodIn wsL_acts wsL_low := goodIn_r _ [7, 8] (by decide +kernel) (by decide +kernel)
set_option maxRecDepth 20000 in
theorem gL_acts_L_low : GoodIn wsL_acts (va_wsS RL 55 yL_low wsL_low) := goodIn_app (goodIn_of _ (by decide +kernel)) ggL_acts_L_low
set_option maxRecDepth 20000 in
theorem ggL_acts_L_adds : GoodIn wsL_acts wsL_adds := goodIn_ca (goodIn_ca (goodIn_ca (goodIn_r _ [11, 12, 13, 3, 2, 14, 15, 16, 17, 18, 19, 20, 21, 22, 23, 24, 25, 26, 27, 28, 29, 30, 31, 32, 33, 34, 35, 36, 37, 38, 39, 40, 41, 42, 43, 44, 45, 46, 47, 48, 49, 50, 51, 52, 53, 54, 55, 56, 57, 58, 59, 60, 61, 62, 63, 64, 65, 66, 67, 68, 69, 70, 71, 72, 73, 74, 75, 76, 77, 78, 79, 80, 81, 82, 83, 84, 85, 86, 87, 88, 89, 90, 91, 92, 93, 94, 95, 96, 97, 98, 99, 100, 101, 102, 103, 104, 105, 106, 107, 108, 109, 110, 111, 112, 113, 114, 115, 116, 117, 118, 119, 120, 121, 122, 123, 124, 125, 126, 127, 128, 129, 130, 131, 132, 133, 134, 135, 136, 137, 138, 139, 140, 141, 142, 143, 144, 145, 146, 147, 148, 149, 150, 151, 152, 153, 154, 155, 156, 157, 158, 159, 160, 161, 162, 163, 164, 165, 166, 167, 168, 169, 170, 171, 172, 173, 174, 175, 176, 177, 178, 179, 180, 181, 182, 183, 184, 185, 186, 187, 188, 189, 190, 191, 192, 193, 194, 195, 196, 197, 198, 199, 200, 201, 202, 203, 204, 205, 206, 207, 208, 209, 210, 211, 212, 213, 214, 215, 216, 217, 218, 219, 220, 221, 222, 223, 224, 225, 226, 227, 228, 229, 230, 231, 232, 233, 234, 235, 236, 237, 238, 239, 240, 241, 242, 243, 244, 245, 246, 247, 248, 249, 250, 251, 252, 253, 254, 513, 514, 515, 516, 517, 518, 519, 520, 521, 522, 523, 524, 525, 526, 527, 528, 529, 530, 531, 532, 533, 534, 535, 536, 537, 538, 539, 540, 541, 542, 543, 544, 545, 546, 547, 548, 549, 550, 551, 552, 553, 554, 555] (by decide +kernel) (by decide +kernel)) (goodIn_sub (fun _ h => List.mem_cons_of_mem _ (List.mem_append_left _ (List.mem_append_left _ (List.mem_append_right _ h)))) (by decide +kernel))) (goodIn_sub (fun _ h => List.mem_cons_of_mem _ (List.mem_append_left _ (List.mem_append_right _ h))) (by decide +kernel))) (goodIn_sub (fun _ h => List.mem_cons_of_mem _ (List.mem_append_right _ h)) (by decide +kernel))
set_option maxRecDepth 20000 in
theorem gL_acts_L_adds : GoodIn wsL_acts (va_wsS RL 59 yL_adds wsL_adds) := goodIn_app (goodIn_of _ (by decide +kernel)) ggL_acts_L_adds
set_option maxRecDepth 20000 in
theorem ggL_acts_L_state : GoodIn wsL_acts wsL_state := goodIn_r _ [257, 258, 259, 6, 260] (by decide +kernel) (by decide +kernel)
set_option maxRecDepth 20000 in
theorem gL_acts_L_state : GoodIn wsL_acts (va_wsS RL 63 yL_state wsL_state) := goodIn_app (goodIn_of _ (by decide +kernel)) ggL_acts_L_state
set_option maxRecDepth 20000 in
theorem ggL_acts_L_sizes : GoodIn wsL_acts wsL_sizes := goodIn_ca (goodIn_ca (goodIn_ca (goodIn_r _ [263, 12, 3, 264, 265, 266, 17, 267, 19, 20, 268, 269, 270, 28, 29, 30, 31, 32, 33, 34, 35, 36, 37, 38, 39, 40, 41, 42, 43, 44, 45, 46, 47, 48, 49, 50, 51, 52, 53, 54, 55, 56, 57, 58, 59, 60, 61, 62, 63, 64, 65, 66, 67, 68, 69, 70, 71, 72, 73, 74, 75, 76, 77, 78, 79, 80, 81, 82, 83, 84, 85, 86, 87, 88, 89, 90, 91, 92, 93, 94, 95, 96, 97, 108, 109, 110, 111, 112, 113, 114, 115, 116, 117, 118, 119, 120, 121, 122, 123, 124, 125, 126, 127, 128, 129, 130, 131, 132, 133, 134, 135, 136, 137, 138, 106, 107, 139, 140, 141, 142, 143, 144, 145, 146, 147, 148, 149, 150, 151, 152, 153, 154, 155, 156, 157, 158, 159, 160, 161, 162, 163, 164, 165, 166, 167, 168, 169, 170, 171, 172, 173, 174, 175, 176, 177, 178, 179, 180, 181, 182, 183, 184, 185, 186, 187, 188, 189, 190, 191, 192, 193, 194, 195, 196, 197, 198, 199, 200, 201, 202, 203, 204, 205, 206, 207, 208, 209, 210, 211, 212, 213, 214, 215, 216, 217, 218, 219, 220, 221, 222, 223, 224, 225, 226, 227, 228, 229, 230, 231, 232, 233, 234, 235, 236, 237, 238, 239, 240, 241, 242, 243, 244, 245, 246, 247, 248, 249, 250, 251, 252, 253, 254, 513, 514, 515, 516, 517, 518, 519, 520, 521, 522, 523, 524, 525, 526, 527, 528, 529, 530, 531, 532, 533, 534, 535, 536, 537, 538, 539, 540, 541, 542, 543, 544, 545, 546, 547, 548, 549, 550, 551, 552, 553, 554, 555] (by decide +kernel) (by decide +kernel)) (goodIn_sub (fun _ h => List.mem_cons_of_mem _ (List.mem_append_left _ (List.mem_append_left _ (List.mem_append_right _ h)))) (by decide +kernel))) (goodIn_sub (fun _ h => List.mem_cons_of_mem _ (List.mem_append_left _ (List.mem_append_right _ h))) (by decide +kernel))) (goodIn_sub (fun _ h => List.mem_cons_of_mem _ (List.mem_append_right _ h)) (by decide +kernel))
set_option maxRecDepth 20000 in
theorem gL_acts_L_sizes : GoodIn wsL_acts (va_wsS RL 67 yL_sizes wsL_sizes) := goodIn_app (goodIn_of _ (by decide +kernel)) ggL_acts_L_sizes
set_option maxRecDepth 20000 in
theorem ggL_acts_L_leasts : GoodIn wsL_acts wsL_leasts := goodIn_ca (goodIn_ca (goodIn_ca (goodIn_r _ [273, 274, 12, 275, 3, 276, 277, 278, 17, 279, 19, 20, 280, 281, 282, 283, 25, 26, 27, 28, 29, 30, 31, 32, 33, 34, 35, 36, 37, 38, 39, 40, 41, 42, 43, 44, 45, 46, 47, 48, 49, 50, 51, 52, 53, 54, 55, 56, 57, 58, 59, 60, 61, 62, 63, 64, 65, 66, 67, 68, 69, 70, 71, 72, 73, 74, 75, 76, 77, 78, 79, 80, 81, 82, 83, 84, 85, 86, 87, 88, 89, 90, 91, 92, 93, 94, 95, 96, 97, 284, 285, 286, 287, 288, 103, 104, 105, 106, 107, 108, 109, 110, 111, 112, 113, 114, 115, 116, 117, 118, 119, 120, 121, 122, 123, 124, 125, 126, 127, 128, 129, 130, 131, 132, 133, 134, 135, 136, 137, 138, 139, 140, 141, 142, 143, 144, 145, 146, 147, 148, 149, 150, 151, 152, 153, 154, 155, 156, 157, 158, 159, 160, 161, 162, 163, 164, 165, 166, 167, 168, 169, 170, 171, 172, 173, 174, 175, 176, 177, 178, 179, 180, 181, 182, 183, 184, 185, 186, 187, 188, 189, 190, 191, 192, 193, 194, 195, 196, 197, 198, 199, 200, 201, 202, 203, 204, 205, 206, 207, 208, 209, 210, 211, 212, 213, 214, 215, 216, 217, 218, 219, 220, 221, 222, 223, 224, 225, 226, 227, 228, 229, 230, 231, 232, 233, 234, 235, 236, 237, 238, 239, 240, 241, 242, 243, 244, 245, 246, 247, 248, 249, 250, 251, 252, 253, 254, 513, 514, 515, 516, 517, 518, 519, 520, 521, 522, 523, 524, 525, 526, 527, 528, 529, 530, 531, 532, 533, 534, 535, 536, 537, 538, 539, 540, 541, 542, 543, 544, 545, 546, 547, 548, 549, 550, 551, 552, 553, 554, 555] (by decide +kernel) (by decide +kernel)) (goodIn_sub (fun _ h => List.mem_cons_of_mem _ (List.mem_append_left _ (List.mem_append_left _ (List.mem_append_right _ h)))) (by decide +kernel))) (goodIn_sub (fun _ h => List.mem_cons_of_mem _ (List.mem_append_left _ (List.mem_append_right _ h))) (by decide +kernel))) (goodIn_sub (fun _ h => List.mem_cons_of_mem _ (List.mem_append_right _ h)) (by decide +kernel))
set_option maxRecDepth 20000 in
theorem gL_acts_L_leasts : GoodIn wsL_acts (va_wsS RL 70 yL_leasts wsL_leasts) := goodIn_app (goodIn_of _ (by decide +kernel)) ggL_acts_L_leasts
set_option maxRecDepth 20000 in
theorem ggL_acts_L_docks : GoodIn wsL_acts wsL_docks := goodIn_ca (goodIn_ca (goodIn_ca (goodIn_r _ [291, 274, 12, 13, 275, 3, 2, 292, 293, 294, 17, 295, 19, 20, 296, 297, 298, 299, 280, 281, 282, 283, 300, 301, 302, 77, 303, 79, 96, 97, 31, 32, 33, 34, 35, 36, 37, 38, 39, 40, 41, 42, 43, 44, 45, 46, 47, 48, 49, 50, 51, 52, 53, 54, 55, 56, 57, 58, 59, 60, 61, 62, 63, 64, 65, 66, 67, 68, 69, 70, 71, 72, 73, 74, 75, 76, 78, 80, 81, 82, 83, 84, 85, 86, 87, 88, 89, 90, 91, 92, 93, 94, 95, 304, 305, 306, 307, 308, 309, 310, 311, 312, 313, 314, 315, 316, 106, 107, 317, 318, 319, 320, 153, 154, 321, 322, 323, 324, 325, 326, 327, 328, 329, 330, 331, 332, 333, 334, 335, 336, 337, 338, 339, 340, 341, 342, 343, 344, 345, 346, 347, 348, 349, 350, 351, 352, 353, 164, 165, 166, 354, 355, 356, 357, 358, 359, 360, 361, 362, 363, 108, 109, 110, 111, 112, 113, 114, 115, 116, 117, 118, 119, 120, 121, 122, 123, 124, 125, 126, 127, 128, 129, 130, 131, 132, 133, 134, 135, 136, 137, 138, 139, 140, 141, 142, 143, 144, 145, 146, 147, 148, 149, 150, 151, 152, 155, 156, 157, 158, 159, 160, 161, 162, 163, 167, 168, 169, 170, 171, 172, 173, 174, 175, 176, 177, 178, 179, 180, 181, 182, 183, 184, 185, 186, 187, 188, 189, 190, 191, 192, 193, 194, 195, 196, 197, 198, 199, 200, 201, 202, 203, 204, 205, 206, 207, 208, 209, 210, 211, 212, 213, 214, 215, 216, 217, 218, 219, 220, 221, 222, 223, 224, 225, 226, 227, 228, 229, 230, 231, 232, 233, 234, 235, 236, 237, 238, 239, 240, 241, 242, 243, 244, 245, 246, 247, 248, 249, 250, 251, 252, 253, 254, 364, 365, 513, 514, 515, 516, 517, 518, 519, 520, 521, 522, 523, 524, 525, 529, 530, 531, 532, 533, 534, 535, 536, 526, 527, 528, 537, 538, 539, 540, 541, 542, 543, 544, 545, 546, 547, 548, 549, 550, 551, 552, 553, 554, 555] (by decide +kernel) (by decide +kernel)) (goodIn_sub (fun _ h => List.mem_cons_of_mem _ (List.mem_append_left _ (List.mem_append_left _ (List.mem_append_right _ h)))) (by decide +kernel))) (goodIn_sub (fun _ h => List.mem_cons_of_mem _ (List.mem_append_left _ (List.mem_append_right _ h))) (by decide +kernel))) (goodIn_sub (fun _ h => List.mem_cons_of_mem _ (List.mem_append_right _ h)) (by decide +kernel))
set_option maxRecDepth 20000 in
theorem gL_acts_L_docks : GoodIn wsL_acts (va_wsS RL 74 yL_docks wsL_docks) := goodIn_app (goodIn_of _ (by decide +kernel)) ggL_acts_L_docks
set_option maxRecDepth 20000 in
theorem ggL_acts_L_docked : GoodIn wsL_acts wsL_docked := goodIn_r _ [368, 369, 370, 6, 371, 372, 373, 374, 258, 259, 260, 375, 376, 377, 378, 379, 380, 381, 382, 383, 384, 385, 386, 387, 388, 389, 390, 391, 392, 393, 394, 395] (by decide +kernel) (by decide +kernel)
set_option maxRecDepth 20000 in
theorem gL_acts_L_docked : GoodIn wsL_acts (va_wsS RL 78 yL_docked wsL_docked) := goodIn_app (goodIn_of _ (by decide +kernel)) ggL_acts_L_docked
set_option maxRecDepth 20000 in
theorem ggL_acts_L_edges : GoodIn wsL_acts wsL_edges := goodIn_ca (goodIn_ca (goodIn_ca (goodIn_r _ [398, 274, 12, 275, 3, 399, 400, 401, 17, 402, 19, 20, 112, 403, 404, 405, 406, 280, 281, 282, 283, 28, 29, 30, 31, 32, 33, 34, 35, 36, 37, 38, 39, 40, 41, 42, 43, 44, 45, 46, 47, 48, 49, 50, 51, 52, 53, 54, 55, 56, 57, 58, 59, 60, 61, 62, 63, 64, 65, 66, 67, 68, 69, 70, 71, 72, 73, 74, 75, 76, 77, 78, 79, 80, 81, 82, 83, 84, 85, 86, 87, 88, 89, 90, 91, 92, 93, 94, 95, 96, 97, 407, 408, 409, 410, 308, 309, 310, 311, 312, 313, 314, 315, 316, 106, 107, 317, 318, 319, 320, 153, 154, 321, 322, 323, 324, 325, 326, 327, 328, 329, 330, 331, 332, 333, 334, 335, 336, 341, 342, 343, 344, 345, 346, 347, 348, 337, 338, 339, 340, 353, 164, 165, 166, 354, 355, 356, 357, 358, 359, 349, 350, 351, 352, 360, 361, 362, 363, 108, 109, 110, 111, 113, 114, 115, 116, 117, 118, 119, 120, 121, 122, 123, 124, 125, 126, 127, 128, 129, 130, 131, 132, 133, 134, 135, 136, 137, 138, 139, 140, 141, 142, 143, 144, 145, 146, 147, 148, 149, 150, 151, 152, 155, 156, 157, 158, 159, 160, 161, 162, 163, 167, 168, 169, 170, 171, 172, 173, 174, 175, 176, 177, 178, 179, 180, 181, 182, 183, 184, 185, 186, 187, 188, 189, 190, 191, 192, 193, 194, 195, 196, 197, 198, 199, 200, 201, 202, 203, 204, 205, 206, 207, 208, 209, 210, 211, 212, 213, 214, 215, 216, 217, 218, 219, 220, 221, 222, 223, 224, 225, 226, 227, 228, 229, 230, 231, 232, 233, 234, 235, 236, 237, 238, 239, 240, 241, 242, 243, 244, 245, 246, 247, 248, 249, 250, 251, 252, 253, 254, 411, 412, 413, 414, 513, 514, 515, 516, 517, 518, 519, 520, 521, 522, 523, 524, 525, 526, 527, 528, 529, 530, 531, 532, 533, 534, 535, 536, 537, 538, 539, 540, 541, 542, 543, 544, 545, 546, 547, 548, 549, 550, 551, 552, 553, 554, 555] (by decide +kernel) (by decide +kernel)) (goodIn_sub (fun _ h => List.mem_cons_of_mem _ (List.mem_append_left _ (List.mem_append_left _ (List.mem_append_right _ h)))) (by decide +kernel))) (goodIn_sub (fun _ h => List.mem_cons_of_mem _ (List.mem_append_left _ (List.mem_append_right _ h))) (by decide +kernel))) (goodIn_sub (fun _ h => List.mem_cons_of_mem _ (List.mem_append_right _ h)) (by decide +kernel))
set_option maxRecDepth 20000 in
theorem gL_acts_L_edges : GoodIn wsL_acts (va_wsS RL 82 yL_edges wsL_edges) := goodIn_app (goodIn_of _ (by decide +kernel)) ggL_acts_L_edges
set_option maxRecDepth 20000 in
theorem ggL_acts_L_edged : GoodIn wsL_acts wsL_edged := goodIn_r _ [417, 369, 370, 6, 371, 372, 373, 374, 258, 259, 260, 375, 376, 377, 378, 379, 380, 381, 382, 383, 384, 385, 386, 387, 388, 389, 390, 391, 392, 393, 394, 395, 418, 419, 420, 421, 422, 423] (by decide +kernel) (by decide +kernel)
set_option maxRecDepth 20000 in
theorem gL_acts_L_edged : GoodIn wsL_acts (va_wsS RL 85 yL_edged wsL_edged) := goodIn_app (goodIn_of _ (by decide +kernel)) ggL_acts_L_edged
set_option maxRecDepth 20000 in
theorem ggL_acts_L_takes : GoodIn wsL_acts wsL_takes := goodIn_r _ [371, 372, 373, 6, 374, 258, 259, 260, 375, 376, 377, 378, 379, 380, 381, 382, 383, 384, 385, 386, 387, 388, 389] (by decide +kernel) (by decide +kernel)
set_option maxRecDepth 20000 in
theorem gL_acts_L_takes : GoodIn wsL_acts (va_wsS RL 35 yL_takes wsL_takes) := goodIn_app (goodIn_of _ (by decide +kernel)) ggL_acts_L_takes
set_option maxRecDepth 20000 in
theorem ggL_acts_L_founds : GoodIn wsL_acts wsL_founds := goodIn_r _ [392, 372, 373, 6, 374] (by decide +kernel) (by decide +kernel)
set_option maxRecDepth 20000 in
theorem gL_acts_L_founds : GoodIn wsL_acts (va_wsS RL 39 yL_founds wsL_founds) := goodIn_app (goodIn_of _ (by decide +kernel)) ggL_acts_L_founds
set_option maxRecDepth 20000 in
theorem ggL_acts_L_floats : GoodIn wsL_acts wsL_floats := goodIn_ca (goodIn_ca (goodIn_ca (goodIn_r _ [426, 274, 12, 275, 3, 427, 428, 429, 17, 430, 19, 20, 431, 432, 433, 434, 280, 281, 282, 283, 31, 32, 33, 34, 35, 36, 37, 38, 39, 40, 41, 42, 43, 44, 45, 46, 47, 48, 49, 50, 51, 52, 53, 54, 55, 56, 57, 58, 59, 60, 61, 62, 63, 64, 65, 66, 67, 68, 69, 70, 71, 72, 73, 74, 75, 76, 77, 78, 79, 80, 81, 82, 83, 84, 85, 86, 87, 88, 89, 90, 91, 92, 93, 94, 95, 96, 97, 435, 436, 437, 438, 308, 309, 310, 311, 312, 313, 314, 315, 316, 106, 107, 317, 318, 319, 320, 153, 154, 321, 322, 323, 324, 325, 326, 327, 328, 329, 330, 331, 332, 333, 334, 335, 336, 341, 342, 343, 344, 345, 346, 347, 348, 337, 338, 339, 340, 108, 109, 110, 111, 112, 113, 114, 115, 116, 117, 118, 119, 120, 121, 122, 123, 124, 125, 126, 127, 128, 129, 130, 131, 132, 133, 134, 135, 136, 137, 138, 139, 140, 141, 142, 143, 144, 145, 146, 147, 148, 149, 150, 151, 152, 155, 156, 157, 158, 159, 160, 161, 162, 163, 164, 165, 166, 167, 168, 169, 170, 171, 172, 173, 174, 175, 176, 177, 178, 179, 180, 181, 182, 183, 184, 185, 186, 187, 188, 189, 190, 191, 192, 193, 194, 195, 196, 197, 198, 199, 200, 201, 202, 203, 204, 205, 206, 207, 208, 209, 210, 211, 212, 213, 214, 215, 216, 217, 218, 219, 220, 221, 222, 223, 224, 225, 226, 227, 228, 229, 230, 231, 232, 233, 234, 235, 236, 237, 238, 239, 240, 241, 242, 243, 244, 245, 246, 247, 248, 249, 250, 251, 252, 253, 254, 365, 513, 514, 515, 516, 517, 518, 519, 520, 521, 522, 523, 524, 525, 526, 527, 528, 529, 530, 531, 532, 533, 534, 535, 536, 537, 538, 539, 540, 541, 542, 543, 544, 545, 546, 547, 548, 549, 550, 551, 552, 553, 554, 555] (by decide +kernel) (by decide +kernel)) (goodIn_sub (fun _ h => List.mem_cons_of_mem _ (List.mem_append_left _ (List.mem_append_left _ (List.mem_append_right _ h)))) (by decide +kernel))) (goodIn_sub (fun _ h => List.mem_cons_of_mem _ (List.mem_append_left _ (List.mem_append_right _ h))) (by decide +kernel))) (goodIn_sub (fun _ h => List.mem_cons_of_mem _ (List.mem_append_right _ h)) (by decide +kernel))
set_option maxRecDepth 20000 in
theorem gL_acts_L_floats : GoodIn wsL_acts (va_wsS RL 89 yL_floats wsL_floats) := goodIn_app (goodIn_of _ (by decide +kernel)) ggL_acts_L_floats
set_option maxRecDepth 20000 in
theorem ggL_acts_L_raises : GoodIn wsL_acts wsL_raises := goodIn_ca (goodIn_ca (goodIn_ca (goodIn_r _ [441, 274, 13, 275, 2, 442, 443, 444, 17, 445, 19, 20, 446, 447, 448, 449, 450, 451, 452, 453, 280, 281, 282, 283, 300, 301, 302, 77, 303, 79, 96, 97, 31, 32, 33, 34, 35, 36, 37, 38, 39, 40, 41, 42, 43, 44, 45, 46, 47, 48, 49, 50, 51, 52, 53, 54, 55, 56, 57, 58, 59, 60, 61, 62, 63, 64, 65, 66, 67, 68, 69, 70, 71, 72, 73, 74, 75, 76, 78, 80, 81, 82, 83, 84, 85, 86, 87, 88, 89, 90, 91, 92, 93, 94, 95, 364, 132, 133, 134, 454, 455, 456, 457, 313, 314, 315, 316, 106, 107, 337, 338, 339, 340, 108, 109, 110, 111, 112, 113, 114, 115, 116, 117, 118, 119, 120, 121, 122, 123, 124, 125, 126, 127, 128, 129, 130, 131, 135, 136, 137, 138, 139, 140, 141, 142, 143, 144, 145, 146, 147, 148, 149, 150, 151, 152, 153, 154, 155, 156, 157, 158, 159, 160, 161, 162, 163, 164, 165, 166, 167, 168, 169, 170, 171, 172, 173, 174, 175, 176, 177, 178, 179, 180, 181, 182, 183, 184, 185, 186, 187, 188, 189, 190, 191, 192, 193, 194, 195, 196, 197, 198, 199, 200, 201, 202, 203, 204, 205, 206, 207, 208, 209, 210, 211, 212, 213, 214, 215, 216, 217, 218, 219, 220, 221, 222, 223, 224, 225, 226, 227, 228, 229, 230, 231, 232, 233, 234, 235, 236, 237, 238, 239, 240, 241, 242, 243, 244, 245, 246, 247, 248, 249, 250, 251, 252, 253, 254, 513, 514, 515, 516, 517, 518, 519, 520, 521, 522, 523, 524, 525, 529, 530, 531, 532, 533, 534, 535, 536, 526, 527, 528, 537, 538, 539, 540, 541, 542, 543, 544, 545, 546, 547, 548, 549, 550, 551, 552, 553, 554, 555] (by decide +kernel) (by decide +kernel)) (goodIn_sub (fun _ h => List.mem_cons_of_mem _ (List.mem_append_left _ (List.mem_append_left _ (List.mem_append_right _ h)))) (by decide +kernel))) (goodIn_sub (fun _ h => List.mem_cons_of_mem _ (List.mem_append_left _ (List.mem_append_right _ h))) (by decide +kernel))) (goodIn_sub (fun _ h => List.mem_cons_of_mem _ (List.mem_append_right _ h)) (by decide +kernel))
set_option maxRecDepth 20000 in
theorem gL_acts_L_raises : GoodIn wsL_acts (va_wsS RL 93 yL_raises wsL_raises) := goodIn_app (goodIn_of _ (by decide +kernel)) ggL_acts_L_raises
set_option maxRecDepth 20000 in
theorem ggL_acts_L_closesOf : GoodIn wsL_acts wsL_closesOf := goodIn_ca (goodIn_ca (goodIn_ca (goodIn_r _ [460, 274, 275, 461, 462, 463, 17, 464, 19, 20, 450, 451, 452, 453, 280, 281, 282, 283, 31, 32, 33, 34, 35, 36, 37, 38, 39, 40, 41, 42, 43, 44, 45, 46, 47, 48, 49, 50, 51, 52, 53, 54, 55, 56, 57, 58, 59, 60, 61, 62, 63, 64, 65, 66, 67, 68, 69, 70, 71, 72, 73, 74, 75, 76, 77, 78, 79, 80, 81, 82, 83, 84, 85, 86, 87, 88, 89, 90, 91, 92, 93, 94, 95, 96, 97, 300, 301, 302, 303, 465, 309, 310, 311, 312, 313, 314, 315, 316, 106, 107, 317, 318, 319, 320, 153, 154, 321, 322, 323, 324, 325, 326, 327, 328, 329, 330, 331, 332, 333, 334, 335, 336, 108, 109, 110, 111, 112, 113, 114, 115, 116, 117, 118, 119, 120, 121, 122, 123, 124, 125, 126, 127, 128, 129, 130, 131, 132, 133, 134, 135, 136, 137, 138, 139, 140, 141, 142, 143, 144, 145, 146, 147, 148, 149, 150, 151, 152, 155, 156, 157, 158, 159, 160, 161, 162, 163, 164, 165, 166, 167, 168, 169, 170, 171, 172, 173, 174, 175, 176, 177, 178, 179, 180, 181, 182, 183, 184, 185, 186, 187, 188, 189, 190, 191, 192, 193, 194, 195, 196, 197, 198, 199, 200, 201, 202, 203, 204, 205, 206, 207, 208, 209, 210, 211, 212, 213, 214, 215, 216, 217, 218, 219, 220, 221, 222, 223, 224, 225, 226, 227, 228, 229, 230, 231, 232, 233, 234, 235, 236, 237, 238, 239, 240, 241, 242, 243, 244, 245, 246, 247, 248, 249, 250, 251, 252, 253, 254, 513, 514, 515, 516, 517, 518, 519, 520, 521, 522, 523, 524, 525, 526, 527, 528, 529, 530, 531, 532, 533, 534, 535, 536, 537, 538, 539, 540, 541, 542, 543, 544, 545, 546, 547, 548, 549, 550, 551, 552, 553, 554, 555] (by decide +kernel) (by decide +kernel)) (goodIn_sub (fun _ h => List.mem_cons_of_mem _ (List.mem_append_left _ (List.mem_append_left _ (List.mem_append_right _ h)))) (by decide +kernel))) (goodIn_sub (fun _ h => List.mem_cons_of_mem _ (List.mem_append_left _ (List.mem_append_right _ h))) (by decide +kernel))) (goodIn_sub (fun _ h => List.mem_cons_of_mem _ (List.mem_append_right _ h)) (by decide +kernel))
set_option maxRecDepth 20000 in
theorem gL_acts_L_closesOf : GoodIn wsL_acts (va_wsS RL 97 yL_closesOf wsL_closesOf) := goodIn_app (goodIn_of _ (by decide +kernel)) ggL_acts_L_closesOf
set_option maxRecDepth 20000 in
theorem ggL_acts_L_tabs : GoodIn wsL_acts wsL_tabs := goodIn_r _ [374] (by decide +kernel) (by decide +kernel)
set_option maxRecDepth 20000 in
theorem gL_acts_L_tabs : GoodIn wsL_acts (va_wsS RL 22 yL_tabs wsL_tabs) := goodIn_app (goodIn_of _ (by decide +kernel)) ggL_acts_L_tabs
set_option maxRecDepth 20000 in
theorem ggL_acts_L_moves : GoodIn wsL_acts wsL_moves := goodIn_ca (goodIn_ca (goodIn_ca (goodIn_r _ [468, 274, 13, 12, 275, 2, 3, 469, 470, 471, 17, 472, 19, 20, 473, 474, 475, 476, 477, 478, 479, 480, 450, 451, 452, 453, 280, 281, 282, 283, 300, 301, 302, 77, 303, 79, 96, 97, 364, 132, 133, 134, 365, 150, 151, 152, 81, 28, 29, 30, 31, 32, 33, 34, 35, 36, 37, 38, 39, 40, 41, 42, 43, 44, 45, 46, 47, 48, 49, 50, 51, 52, 53, 54, 55, 56, 57, 58, 59, 60, 61, 62, 63, 64, 65, 66, 67, 68, 69, 70, 71, 72, 73, 74, 75, 76, 78, 80, 82, 83, 84, 85, 86, 87, 88, 89, 90, 91, 92, 93, 94, 95, 481, 136, 137, 138, 482, 483, 484, 485, 313, 314, 315, 316, 106, 107, 337, 338, 339, 340, 108, 109, 110, 111, 112, 113, 114, 115, 116, 117, 118, 119, 120, 121, 122, 123, 124, 125, 126, 127, 128, 129, 130, 131, 135, 139, 140, 141, 142, 143, 144, 145, 146, 147, 148, 149, 153, 154, 155, 156, 157, 158, 159, 160, 161, 162, 163, 164, 165, 166, 167, 168, 169, 170, 171, 172, 173, 174, 175, 176, 177, 178, 179, 180, 181, 182, 183, 184, 185, 186, 187, 188, 189, 190, 191, 192, 193, 194, 195, 196, 197, 198, 199, 200, 201, 202, 203, 204, 205, 206, 207, 208, 209, 210, 211, 212, 213, 214, 215, 216, 217, 218, 219, 220, 221, 222, 223, 224, 225, 226, 227, 228, 229, 230, 231, 232, 233, 234, 235, 236, 237, 238, 239, 240, 241, 242, 243, 244, 245, 246, 247, 248, 249, 250, 251, 252, 253, 254, 513, 514, 515, 516, 517, 518, 519, 520, 521, 522, 523, 524, 525, 529, 530, 531, 532, 533, 534, 535, 536, 526, 527, 528, 537, 538, 539, 540, 541, 542, 543, 544, 545, 546, 547, 548, 549, 550, 551, 552, 553, 554, 555] (by decide +kernel) (by decide +kernel)) (goodIn_sub (fun _ h => List.mem_cons_of_mem _ (List.mem_append_left _ (List.mem_append_left _ (List.mem_append_right _ h)))) (by decide +kernel))) (goodIn_sub (fun _ h => List.mem_cons_of_mem _ (List.mem_append_left _ (List.mem_append_right _ h))) (by decide +kernel))) (goodIn_sub (fun _ h => List.mem_cons_of_mem _ (List.mem_append_right _ h)) (by decide +kernel))
set_option maxRecDepth 20000 in
theorem gL_acts_L_moves : GoodIn wsL_acts (va_wsS RL 100 yL_moves wsL_moves) := goodIn_app (goodIn_of _ (by decide +kernel)) ggL_acts_L_moves
set_option maxRecDepth 20000 in
theorem ggL_acts_L_signOf : GoodIn wsL_acts wsL_signOf := goodIn_r _ [260] (by decide +kernel) (by decide +kernel)
set_option maxRecDepth 20000 in
theorem gL_acts_L_signOf : GoodIn wsL_acts (va_wsS RL 18 yL_signOf wsL_signOf) := goodIn_app (goodIn_of _ (by decide +kernel)) ggL_acts_L_signOf
set_option maxRecDepth 20000 in
theorem ggL_acts_L_weighs : GoodIn wsL_acts wsL_weighs := goodIn_ca (goodIn_ca (goodIn_ca (goodIn_r _ [488, 274, 12, 13, 275, 3, 2, 489, 490, 491, 17, 492, 19, 20, 493, 494, 495, 496, 497, 280, 281, 282, 283, 364, 132, 133, 77, 134, 79, 96, 97, 498, 153, 154, 31, 32, 33, 34, 35, 36, 37, 38, 39, 40, 41, 42, 43, 44, 45, 46, 47, 48, 49, 50, 51, 52, 53, 54, 55, 56, 57, 58, 59, 60, 61, 62, 63, 64, 65, 66, 67, 68, 69, 70, 71, 72, 73, 74, 75, 76, 78, 80, 81, 82, 83, 84, 85, 86, 87, 88, 89, 90, 91, 92, 93, 94, 95, 499, 212, 213, 214, 500, 501, 502, 503, 106, 107, 108, 109, 110, 111, 112, 113, 114, 115, 116, 117, 118, 119, 120, 121, 122, 123, 124, 125, 126, 127, 128, 129, 130, 131, 135, 136, 137, 138, 139, 140, 141, 142, 143, 144, 145, 146, 147, 148, 149, 150, 151, 152, 155, 156, 157, 158, 159, 160, 161, 162, 163, 164, 165, 166, 167, 168, 169, 170, 171, 172, 173, 174, 175, 176, 177, 178, 179, 180, 181, 182, 183, 184, 185, 186, 187, 188, 189, 190, 191, 192, 193, 194, 195, 196, 197, 198, 199, 200, 201, 202, 203, 204, 205, 206, 207, 208, 209, 210, 211, 215, 216, 217, 218, 219, 220, 221, 222, 223, 224, 225, 226, 227, 228, 229, 230, 231, 232, 233, 234, 235, 236, 237, 238, 239, 240, 241, 242, 243, 244, 245, 246, 247, 248, 249, 250, 251, 252, 253, 254, 513, 514, 515, 516, 517, 518, 519, 520, 521, 522, 523, 524, 525, 529, 530, 531, 532, 533, 534, 535, 536, 526, 527, 528, 537, 538, 539, 540, 541, 542, 543, 544, 545, 546, 547, 548, 549, 550, 551, 552, 553, 554, 555] (by decide +kernel) (by decide +kernel)) (goodIn_sub (fun _ h => List.mem_cons_of_mem _ (List.mem_append_left _ (List.mem_append_left _ (List.mem_append_right _ h)))) (by decide +kernel))) (goodIn_sub (fun _ h => List.mem_cons_of_mem _ (List.mem_append_left _ (List.mem_append_right _ h))) (by decide +kernel))) (goodIn_sub (fun _ h => List.mem_cons_of_mem _ (List.mem_append_right _ h)) (by decide +kernel))
set_option maxRecDepth 20000 in
theorem gL_acts_L_weighs : GoodIn wsL_acts (va_wsS RL 104 yL_weighs wsL_weighs) := goodIn_app (goodIn_of _ (by decide +kernel)) ggL_acts_L_weighs
set_option maxRecDepth 20000 in
theorem ggL_acts_L_wakes : GoodIn wsL_acts wsL_wakes := goodIn_ca (goodIn_ca (goodIn_ca (goodIn_r _ [506, 274, 13, 275, 2, 507, 508, 509, 17, 510, 19, 20, 477, 478, 479, 480, 450, 451, 452, 453, 280, 281, 282, 283, 300, 301, 302, 77, 303, 79, 96, 97, 31, 32, 33, 34, 35, 36, 37, 38, 39, 40, 41, 42, 43, 44, 45, 46, 47, 48, 49, 50, 51, 52, 53, 54, 55, 56, 57, 58, 59, 60, 61, 62, 63, 64, 65, 66, 67, 68, 69, 70, 71, 72, 73, 74, 75, 76, 78, 80, 81, 82, 83, 84, 85, 86, 87, 88, 89, 90, 91, 92, 93, 94, 95, 364, 132, 133, 134, 511, 330, 331, 332, 512, 334, 335, 336, 106, 107, 513, 514, 515, 516, 517, 518, 519, 520, 521, 522, 523, 524, 525, 529, 530, 531, 532, 533, 534, 535, 536, 526, 527, 528] (by decide +kernel) (by decide +kernel)) (goodIn_sub (fun _ h => List.mem_cons_of_mem _ (List.mem_append_left _ (List.mem_append_left _ (List.mem_append_right _ h)))) (by decide +kernel))) (goodIn_sub (fun _ h => List.mem_cons_of_mem _ (List.mem_append_left _ (List.mem_append_right _ h))) (by decide +kernel))) (goodIn_sub (fun _ h => List.mem_cons_of_mem _ (List.mem_append_right _ h)) (by decide +kernel))
set_option maxRecDepth 20000 in
theorem gL_acts_L_wakes : GoodIn wsL_acts (va_wsS RL 107 yL_wakes wsL_wakes) := goodIn_app (goodIn_of _ (by decide +kernel)) ggL_acts_L_wakes
theorem dL_acts_0 : decode cL_acts 0 = .ok (.iload 5, 2) := by decide +kernel
theorem dL_acts_2 : decode cL_acts 2 = .ok (.iconst 5, 1) := by decide +kernel
theorem dL_acts_3 : decode cL_acts 3 = .ok (.ishr, 1) := by decide +kernel
theorem dL_acts_4 : decode cL_acts 4 = .ok (.ldc 54, 2) := by decide +kernel
theorem dL_acts_6 : decode cL_acts 6 = .ok (.invokestatic 55, 3) := by decide +kernel
theorem dL_acts_9 : decode cL_acts 9 = .ok (.istore 6, 2) := by decide +kernel
theorem dL_acts_11 : decode cL_acts 11 = .ok (.aload_n 1, 1) := by decide +kernel
theorem dL_acts_12 : decode cL_acts 12 = .ok (.iconst 2, 1) := by decide +kernel
theorem dL_acts_13 : decode cL_acts 13 = .ok (.iaload, 1) := by decide +kernel
theorem dL_acts_14 : decode cL_acts 14 = .ok (.iconst 2, 1) := by decide +kernel
theorem dL_acts_15 : decode cL_acts 15 = .ok (.if_icmp .lt 20, 3) := by decide +kernel
theorem dL_acts_18 : decode cL_acts 18 = .ok (.iload 5, 2) := by decide +kernel
theorem dL_acts_20 : decode cL_acts 20 = .ok (.bipush 32, 2) := by decide +kernel
theorem dL_acts_22 : decode cL_acts 22 = .ok (.invokestatic 55, 3) := by decide +kernel
theorem dL_acts_25 : decode cL_acts 25 = .ok (.ifCond .ne 120, 3) := by decide +kernel
theorem dL_acts_28 : decode cL_acts 28 = .ok (.aload_n 1, 1) := by decide +kernel
theorem dL_acts_29 : decode cL_acts 29 = .ok (.iconst 2, 1) := by decide +kernel
theorem dL_acts_30 : decode cL_acts 30 = .ok (.iaload, 1) := by decide +kernel
theorem dL_acts_31 : decode cL_acts 31 = .ok (.iconst 5, 1) := by decide +kernel
theorem dL_acts_32 : decode cL_acts 32 = .ok (.if_icmp .ge 113, 3) := by decide +kernel
theorem dL_acts_35 : decode cL_acts 35 = .ok (.aload_n 3, 1) := by decide +kernel
theorem dL_acts_36 : decode cL_acts 36 = .ok (.iconst 4, 1) := by decide +kernel
theorem dL_acts_37 : decode cL_acts 37 = .ok (.aload_n 1, 1) := by decide +kernel
theorem dL_acts_38 : decode cL_acts 38 = .ok (.iconst 2, 1) := by decide +kernel
theorem dL_acts_39 : decode cL_acts 39 = .ok (.iaload, 1) := by decide +kernel
theorem dL_acts_40 : decode cL_acts 40 = .ok (.imul, 1) := by decide +kernel
theorem dL_acts_41 : decode cL_acts 41 = .ok (.iconst 1, 1) := by decide +kernel
theorem dL_acts_42 : decode cL_acts 42 = .ok (.iload 6, 2) := by decide +kernel
theorem dL_acts_44 : decode cL_acts 44 = .ok (.iload 6, 2) := by decide +kernel
theorem dL_acts_46 : decode cL_acts 46 = .ok (.iconst 3, 1) := by decide +kernel
theorem dL_acts_47 : decode cL_acts 47 = .ok (.irem, 1) := by decide +kernel
theorem dL_acts_48 : decode cL_acts 48 = .ok (.ifCond .ne 8, 3) := by decide +kernel
theorem dL_acts_51 : decode cL_acts 51 = .ok (.bipush 60, 2) := by decide +kernel
theorem dL_acts_53 : decode cL_acts 53 = .ok (.goto 5, 3) := by decide +kernel
theorem dL_acts_56 : decode cL_acts 56 = .ok (.bipush 20, 2) := by decide +kernel
theorem dL_acts_58 : decode cL_acts 58 = .ok (.irem, 1) := by decide +kernel
theorem dL_acts_59 : decode cL_acts 59 = .ok (.iadd, 1) := by decide +kernel
theorem dL_acts_60 : decode cL_acts 60 = .ok (.iastore, 1) := by decide +kernel
theorem dL_acts_61 : decode cL_acts 61 = .ok (.aload_n 3, 1) := by decide +kernel
theorem dL_acts_62 : decode cL_acts 62 = .ok (.iconst 4, 1) := by decide +kernel
theorem dL_acts_63 : decode cL_acts 63 = .ok (.aload_n 1, 1) := by decide +kernel
theorem dL_acts_64 : decode cL_acts 64 = .ok (.iconst 2, 1) := by decide +kernel
theorem dL_acts_65 : decode cL_acts 65 = .ok (.iaload, 1) := by decide +kernel
theorem dL_acts_66 : decode cL_acts 66 = .ok (.imul, 1) := by decide +kernel
theorem dL_acts_67 : decode cL_acts 67 = .ok (.iconst 1, 1) := by decide +kernel
theorem dL_acts_68 : decode cL_acts 68 = .ok (.iadd, 1) := by decide +kernel
theorem dL_acts_69 : decode cL_acts 69 = .ok (.iconst 1, 1) := by decide +kernel
theorem dL_acts_70 : decode cL_acts 70 = .ok (.iload 6, 2) := by decide +kernel
theorem dL_acts_72 : decode cL_acts 72 = .ok (.bipush 7, 2) := by decide +kernel
theorem dL_acts_74 : decode cL_acts 74 = .ok (.idiv, 1) := by decide +kernel
theorem dL_acts_75 : decode cL_acts 75 = .ok (.iload 6, 2) := by decide +kernel
theorem dL_acts_77 : decode cL_acts 77 = .ok (.iconst 3, 1) := by decide +kernel
theorem dL_acts_78 : decode cL_acts 78 = .ok (.irem, 1) := by decide +kernel
theorem dL_acts_79 : decode cL_acts 79 = .ok (.ifCond .ne 8, 3) := by decide +kernel
theorem dL_acts_82 : decode cL_acts 82 = .ok (.bipush 60, 2) := by decide +kernel
theorem dL_acts_84 : decode cL_acts 84 = .ok (.goto 5, 3) := by decide +kernel
theorem dL_acts_87 : decode cL_acts 87 = .ok (.bipush 15, 2) := by decide +kernel
theorem dL_acts_89 : decode cL_acts 89 = .ok (.irem, 1) := by decide +kernel
theorem dL_acts_90 : decode cL_acts 90 = .ok (.iadd, 1) := by decide +kernel
theorem dL_acts_91 : decode cL_acts 91 = .ok (.iastore, 1) := by decide +kernel
theorem dL_acts_92 : decode cL_acts 92 = .ok (.aload_n 3, 1) := by decide +kernel
theorem dL_acts_93 : decode cL_acts 93 = .ok (.iconst 4, 1) := by decide +kernel
theorem dL_acts_94 : decode cL_acts 94 = .ok (.aload_n 1, 1) := by decide +kernel
theorem dL_acts_95 : decode cL_acts 95 = .ok (.iconst 2, 1) := by decide +kernel
theorem dL_acts_96 : decode cL_acts 96 = .ok (.iaload, 1) := by decide +kernel
theorem dL_acts_97 : decode cL_acts 97 = .ok (.imul, 1) := by decide +kernel
theorem dL_acts_98 : decode cL_acts 98 = .ok (.iconst 2, 1) := by decide +kernel
theorem dL_acts_99 : decode cL_acts 99 = .ok (.iadd, 1) := by decide +kernel
theorem dL_acts_100 : decode cL_acts 100 = .ok (.iconst (-1), 1) := by decide +kernel
theorem dL_acts_101 : decode cL_acts 101 = .ok (.iastore, 1) := by decide +kernel
theorem dL_acts_102 : decode cL_acts 102 = .ok (.aload_n 1, 1) := by decide +kernel
theorem dL_acts_103 : decode cL_acts 103 = .ok (.iconst 2, 1) := by decide +kernel
theorem dL_acts_104 : decode cL_acts 104 = .ok (.dup2, 1) := by decide +kernel
theorem dL_acts_105 : decode cL_acts 105 = .ok (.iaload, 1) := by decide +kernel
theorem dL_acts_106 : decode cL_acts 106 = .ok (.iconst 1, 1) := by decide +kernel
theorem dL_acts_107 : decode cL_acts 107 = .ok (.iadd, 1) := by decide +kernel
theorem dL_acts_108 : decode cL_acts 108 = .ok (.iastore, 1) := by decide +kernel
theorem dL_acts_109 : decode cL_acts 109 = .ok (.aload_n 0, 1) := by decide +kernel
theorem dL_acts_110 : decode cL_acts 110 = .ok (.aload_n 3, 1) := by decide +kernel
theorem dL_acts_111 : decode cL_acts 111 = .ok (.iconst 4, 1) := by decide +kernel
theorem dL_acts_112 : decode cL_acts 112 = .ok (.aload_n 1, 1) := by decide +kernel
theorem dL_acts_113 : decode cL_acts 113 = .ok (.iconst 2, 1) := by decide +kernel
theorem dL_acts_114 : decode cL_acts 114 = .ok (.iaload, 1) := by decide +kernel
theorem dL_acts_115 : decode cL_acts 115 = .ok (.imul, 1) := by decide +kernel
theorem dL_acts_116 : decode cL_acts 116 = .ok (.iconst 4, 1) := by decide +kernel
theorem dL_acts_117 : decode cL_acts 117 = .ok (.isub, 1) := by decide +kernel
theorem dL_acts_118 : decode cL_acts 118 = .ok (.iaload, 1) := by decide +kernel
theorem dL_acts_119 : decode cL_acts 119 = .ok (.aload_n 3, 1) := by decide +kernel
theorem dL_acts_120 : decode cL_acts 120 = .ok (.iconst 4, 1) := by decide +kernel
theorem dL_acts_121 : decode cL_acts 121 = .ok (.aload_n 1, 1) := by decide +kernel
theorem dL_acts_122 : decode cL_acts 122 = .ok (.iconst 2, 1) := by decide +kernel
theorem dL_acts_123 : decode cL_acts 123 = .ok (.iaload, 1) := by decide +kernel
theorem dL_acts_124 : decode cL_acts 124 = .ok (.imul, 1) := by decide +kernel
theorem dL_acts_125 : decode cL_acts 125 = .ok (.iconst 3, 1) := by decide +kernel
theorem dL_acts_126 : decode cL_acts 126 = .ok (.isub, 1) := by decide +kernel
theorem dL_acts_127 : decode cL_acts 127 = .ok (.iaload, 1) := by decide +kernel
theorem dL_acts_128 : decode cL_acts 128 = .ok (.invokestatic 59, 3) := by decide +kernel
theorem dL_acts_131 : decode cL_acts 131 = .ok (.aload_n 1, 1) := by decide +kernel
theorem dL_acts_132 : decode cL_acts 132 = .ok (.iconst 2, 1) := by decide +kernel
theorem dL_acts_133 : decode cL_acts 133 = .ok (.iaload, 1) := by decide +kernel
theorem dL_acts_134 : decode cL_acts 134 = .ok (.iconst 1, 1) := by decide +kernel
theorem dL_acts_135 : decode cL_acts 135 = .ok (.isub, 1) := by decide +kernel
theorem dL_acts_136 : decode cL_acts 136 = .ok (.if_icmp .ne 7, 3) := by decide +kernel
theorem dL_acts_139 : decode cL_acts 139 = .ok (.iconst 1, 1) := by decide +kernel
theorem dL_acts_140 : decode cL_acts 140 = .ok (.goto 4, 3) := by decide +kernel
theorem dL_acts_143 : decode cL_acts 143 = .ok (.iconst 0, 1) := by decide +kernel
theorem dL_acts_144 : decode cL_acts 144 = .ok (.ireturn, 1) := by decide +kernel
theorem dL_acts_145 : decode cL_acts 145 = .ok (.iload 6, 2) := by decide +kernel
theorem dL_acts_147 : decode cL_acts 147 = .ok (.aload_n 1, 1) := by decide +kernel
theorem dL_acts_148 : decode cL_acts 148 = .ok (.iconst 2, 1) := by decide +kernel
theorem dL_acts_149 : decode cL_acts 149 = .ok (.iaload, 1) := by decide +kernel
theorem dL_acts_150 : decode cL_acts 150 = .ok (.irem, 1) := by decide +kernel
theorem dL_acts_151 : decode cL_acts 151 = .ok (.istore 7, 2) := by decide +kernel
theorem dL_acts_153 : decode cL_acts 153 = .ok (.iload 7, 2) := by decide +kernel
theorem dL_acts_155 : decode cL_acts 155 = .ok (.iconst 1, 1) := by decide +kernel
theorem dL_acts_156 : decode cL_acts 156 = .ok (.iadd, 1) := by decide +kernel
theorem dL_acts_157 : decode cL_acts 157 = .ok (.iload 6, 2) := by decide +kernel
theorem dL_acts_159 : decode cL_acts 159 = .ok (.iconst 5, 1) := by decide +kernel
theorem dL_acts_160 : decode cL_acts 160 = .ok (.idiv, 1) := by decide +kernel
theorem dL_acts_161 : decode cL_acts 161 = .ok (.aload_n 1, 1) := by decide +kernel
theorem dL_acts_162 : decode cL_acts 162 = .ok (.iconst 2, 1) := by decide +kernel
theorem dL_acts_163 : decode cL_acts 163 = .ok (.iaload, 1) := by decide +kernel
theorem dL_acts_164 : decode cL_acts 164 = .ok (.iconst 1, 1) := by decide +kernel
theorem dL_acts_165 : decode cL_acts 165 = .ok (.isub, 1) := by decide +kernel
theorem dL_acts_166 : decode cL_acts 166 = .ok (.irem, 1) := by decide +kernel
theorem dL_acts_167 : decode cL_acts 167 = .ok (.iadd, 1) := by decide +kernel
theorem dL_acts_168 : decode cL_acts 168 = .ok (.aload_n 1, 1) := by decide +kernel
theorem dL_acts_169 : decode cL_acts 169 = .ok (.iconst 2, 1) := by decide +kernel
theorem dL_acts_170 : decode cL_acts 170 = .ok (.iaload, 1) := by decide +kernel
theorem dL_acts_171 : decode cL_acts 171 = .ok (.irem, 1) := by decide +kernel
theorem dL_acts_172 : decode cL_acts 172 = .ok (.istore 8, 2) := by decide +kernel
theorem dL_acts_174 : decode cL_acts 174 = .ok (.aload_n 1, 1) := by decide +kernel
theorem dL_acts_175 : decode cL_acts 175 = .ok (.aload_n 2, 1) := by decide +kernel
theorem dL_acts_176 : decode cL_acts 176 = .ok (.aload_n 3, 1) := by decide +kernel
theorem dL_acts_177 : decode cL_acts 177 = .ok (.iload 7, 2) := by decide +kernel
theorem dL_acts_179 : decode cL_acts 179 = .ok (.invokestatic 63, 3) := by decide +kernel
theorem dL_acts_182 : decode cL_acts 182 = .ok (.istore 9, 2) := by decide +kernel
theorem dL_acts_184 : decode cL_acts 184 = .ok (.iload 5, 2) := by decide +kernel
theorem dL_acts_186 : decode cL_acts 186 = .ok (.bipush 16, 2) := by decide +kernel
theorem dL_acts_188 : decode cL_acts 188 = .ok (.invokestatic 55, 3) := by decide +kernel
theorem dL_acts_191 : decode cL_acts 191 = .ok (.tableswitch 1042 0 14 #[73, 157, 242, 242, 242, 242, 332, 332, 332, 371, 536, 649, 705, 923, 923], 73) := by decide +kernel
theorem dL_acts_264 : decode cL_acts 264 = .ok (.sipush 1000, 3) := by decide +kernel
theorem dL_acts_267 : decode cL_acts 267 = .ok (.aload_n 1, 1) := by decide +kernel
theorem dL_acts_268 : decode cL_acts 268 = .ok (.iconst 0, 1) := by decide +kernel
theorem dL_acts_269 : decode cL_acts 269 = .ok (.iaload, 1) := by decide +kernel
theorem dL_acts_270 : decode cL_acts 270 = .ok (.imul, 1) := by decide +kernel
theorem dL_acts_271 : decode cL_acts 271 = .ok (.aload_n 1, 1) := by decide +kernel
theorem dL_acts_272 : decode cL_acts 272 = .ok (.iconst 1, 1) := by decide +kernel
theorem dL_acts_273 : decode cL_acts 273 = .ok (.iaload, 1) := by decide +kernel
theorem dL_acts_274 : decode cL_acts 274 = .ok (.iadd, 1) := by decide +kernel
theorem dL_acts_275 : decode cL_acts 275 = .ok (.istore 10, 2) := by decide +kernel
theorem dL_acts_277 : decode cL_acts 277 = .ok (.aload_n 1, 1) := by decide +kernel
theorem dL_acts_278 : decode cL_acts 278 = .ok (.iconst 0, 1) := by decide +kernel
theorem dL_acts_279 : decode cL_acts 279 = .ok (.bipush 20, 2) := by decide +kernel
theorem dL_acts_281 : decode cL_acts 281 = .ok (.iload 6, 2) := by decide +kernel
theorem dL_acts_283 : decode cL_acts 283 = .ok (.iload 6, 2) := by decide +kernel
theorem dL_acts_285 : decode cL_acts 285 = .ok (.iconst 2, 1) := by decide +kernel
theorem dL_acts_286 : decode cL_acts 286 = .ok (.irem, 1) := by decide +kernel
theorem dL_acts_287 : decode cL_acts 287 = .ok (.ifCond .ne 8, 3) := by decide +kernel
theorem dL_acts_290 : decode cL_acts 290 = .ok (.bipush 60, 2) := by decide +kernel
theorem dL_acts_292 : decode cL_acts 292 = .ok (.goto 6, 3) := by decide +kernel
theorem dL_acts_295 : decode cL_acts 295 = .ok (.sipush 381, 3) := by decide +kernel
theorem dL_acts_298 : decode cL_acts 298 = .ok (.irem, 1) := by decide +kernel
theorem dL_acts_299 : decode cL_acts 299 = .ok (.iadd, 1) := by decide +kernel
theorem dL_acts_300 : decode cL_acts 300 = .ok (.iastore, 1) := by decide +kernel
theorem dL_acts_301 : decode cL_acts 301 = .ok (.aload_n 1, 1) := by decide +kernel
theorem dL_acts_302 : decode cL_acts 302 = .ok (.iconst 1, 1) := by decide +kernel
theorem dL_acts_303 : decode cL_acts 303 = .ok (.bipush 20, 2) := by decide +kernel
theorem dL_acts_305 : decode cL_acts 305 = .ok (.iload 6, 2) := by decide +kernel
theorem dL_acts_307 : decode cL_acts 307 = .ok (.iconst 5, 1) := by decide +kernel
theorem dL_acts_308 : decode cL_acts 308 = .ok (.idiv, 1) := by decide +kernel
theorem dL_acts_309 : decode cL_acts 309 = .ok (.iload 6, 2) := by decide +kernel
theorem dL_acts_311 : decode cL_acts 311 = .ok (.iconst 2, 1) := by decide +kernel
theorem dL_acts_312 : decode cL_acts 312 = .ok (.irem, 1) := by decide +kernel
theorem dL_acts_313 : decode cL_acts 313 = .ok (.ifCond .ne 8, 3) := by decide +kernel
theorem dL_acts_316 : decode cL_acts 316 = .ok (.bipush 40, 2) := by decide +kernel
theorem dL_acts_318 : decode cL_acts 318 = .ok (.goto 6, 3) := by decide +kernel
theorem dL_acts_321 : decode cL_acts 321 = .ok (.sipush 381, 3) := by decide +kernel
theorem dL_acts_324 : decode cL_acts 324 = .ok (.irem, 1) := by decide +kernel
theorem dL_acts_325 : decode cL_acts 325 = .ok (.iadd, 1) := by decide +kernel
theorem dL_acts_326 : decode cL_acts 326 = .ok (.iastore, 1) := by decide +kernel
theorem dL_acts_327 : decode cL_acts 327 = .ok (.aload_n 0, 1) := by decide +kernel
theorem dL_acts_328 : decode cL_acts 328 = .ok (.aload_n 1, 1) := by decide +kernel
theorem dL_acts_329 : decode cL_acts 329 = .ok (.iconst 0, 1) := by decide +kernel
theorem dL_acts_330 : decode cL_acts 330 = .ok (.iaload, 1) := by decide +kernel
theorem dL_acts_331 : decode cL_acts 331 = .ok (.aload_n 1, 1) := by decide +kernel
theorem dL_acts_332 : decode cL_acts 332 = .ok (.iconst 1, 1) := by decide +kernel
theorem dL_acts_333 : decode cL_acts 333 = .ok (.iaload, 1) := by decide +kernel
theorem dL_acts_334 : decode cL_acts 334 = .ok (.invokestatic 67, 3) := by decide +kernel
theorem dL_acts_337 : decode cL_acts 337 = .ok (.iload 10, 2) := by decide +kernel
theorem dL_acts_339 : decode cL_acts 339 = .ok (.if_icmp .ne 7, 3) := by decide +kernel
theorem dL_acts_342 : decode cL_acts 342 = .ok (.iconst 1, 1) := by decide +kernel
theorem dL_acts_343 : decode cL_acts 343 = .ok (.goto 4, 3) := by decide +kernel
theorem dL_acts_346 : decode cL_acts 346 = .ok (.iconst 0, 1) := by decide +kernel
theorem dL_acts_347 : decode cL_acts 347 = .ok (.ireturn, 1) := by decide +kernel
theorem dL_acts_348 : decode cL_acts 348 = .ok (.sipush 1000, 3) := by decide +kernel
theorem dL_acts_351 : decode cL_acts 351 = .ok (.aload_n 3, 1) := by decide +kernel
theorem dL_acts_352 : decode cL_acts 352 = .ok (.iconst 4, 1) := by decide +kernel
theorem dL_acts_353 : decode cL_acts 353 = .ok (.iload 7, 2) := by decide +kernel
theorem dL_acts_355 : decode cL_acts 355 = .ok (.imul, 1) := by decide +kernel
theorem dL_acts_356 : decode cL_acts 356 = .ok (.iaload, 1) := by decide +kernel
theorem dL_acts_357 : decode cL_acts 357 = .ok (.imul, 1) := by decide +kernel
theorem dL_acts_358 : decode cL_acts 358 = .ok (.aload_n 3, 1) := by decide +kernel
theorem dL_acts_359 : decode cL_acts 359 = .ok (.iconst 4, 1) := by decide +kernel
theorem dL_acts_360 : decode cL_acts 360 = .ok (.iload 7, 2) := by decide +kernel
theorem dL_acts_362 : decode cL_acts 362 = .ok (.imul, 1) := by decide +kernel
theorem dL_acts_363 : decode cL_acts 363 = .ok (.iconst 1, 1) := by decide +kernel
theorem dL_acts_364 : decode cL_acts 364 = .ok (.iadd, 1) := by decide +kernel
theorem dL_acts_365 : decode cL_acts 365 = .ok (.iaload, 1) := by decide +kernel
theorem dL_acts_366 : decode cL_acts 366 = .ok (.iadd, 1) := by decide +kernel
theorem dL_acts_367 : decode cL_acts 367 = .ok (.istore 11, 2) := by decide +kernel
theorem dL_acts_369 : decode cL_acts 369 = .ok (.aload_n 3, 1) := by decide +kernel
theorem dL_acts_370 : decode cL_acts 370 = .ok (.iconst 4, 1) := by decide +kernel
theorem dL_acts_371 : decode cL_acts 371 = .ok (.iload 7, 2) := by decide +kernel
theorem dL_acts_373 : decode cL_acts 373 = .ok (.imul, 1) := by decide +kernel
theorem dL_acts_374 : decode cL_acts 374 = .ok (.iconst 1, 1) := by decide +kernel
theorem dL_acts_375 : decode cL_acts 375 = .ok (.iload 6, 2) := by decide +kernel
theorem dL_acts_377 : decode cL_acts 377 = .ok (.iconst 5, 1) := by decide +kernel
theorem dL_acts_378 : decode cL_acts 378 = .ok (.idiv, 1) := by decide +kernel
theorem dL_acts_379 : decode cL_acts 379 = .ok (.bipush 60, 2) := by decide +kernel
theorem dL_acts_381 : decode cL_acts 381 = .ok (.irem, 1) := by decide +kernel
theorem dL_acts_382 : decode cL_acts 382 = .ok (.iadd, 1) := by decide +kernel
theorem dL_acts_383 : decode cL_acts 383 = .ok (.iastore, 1) := by decide +kernel
theorem dL_acts_384 : decode cL_acts 384 = .ok (.aload_n 3, 1) := by decide +kernel
theorem dL_acts_385 : decode cL_acts 385 = .ok (.iconst 4, 1) := by decide +kernel
theorem dL_acts_386 : decode cL_acts 386 = .ok (.iload 7, 2) := by decide +kernel
theorem dL_acts_388 : decode cL_acts 388 = .ok (.imul, 1) := by decide +kernel
theorem dL_acts_389 : decode cL_acts 389 = .ok (.iconst 1, 1) := by decide +kernel
theorem dL_acts_390 : decode cL_acts 390 = .ok (.iadd, 1) := by decide +kernel
theorem dL_acts_391 : decode cL_acts 391 = .ok (.iconst 1, 1) := by decide +kernel
theorem dL_acts_392 : decode cL_acts 392 = .ok (.iload 6, 2) := by decide +kernel
theorem dL_acts_394 : decode cL_acts 394 = .ok (.bipush 11, 2) := by decide +kernel
theorem dL_acts_396 : decode cL_acts 396 = .ok (.idiv, 1) := by decide +kernel
theorem dL_acts_397 : decode cL_acts 397 = .ok (.bipush 60, 2) := by decide +kernel
theorem dL_acts_399 : decode cL_acts 399 = .ok (.irem, 1) := by decide +kernel
theorem dL_acts_400 : decode cL_acts 400 = .ok (.iadd, 1) := by decide +kernel
theorem dL_acts_401 : decode cL_acts 401 = .ok (.iastore, 1) := by decide +kernel
theorem dL_acts_402 : decode cL_acts 402 = .ok (.aload_n 0, 1) := by decide +kernel
theorem dL_acts_403 : decode cL_acts 403 = .ok (.iload 7, 2) := by decide +kernel
theorem dL_acts_405 : decode cL_acts 405 = .ok (.aload_n 3, 1) := by decide +kernel
theorem dL_acts_406 : decode cL_acts 406 = .ok (.iconst 4, 1) := by decide +kernel
theorem dL_acts_407 : decode cL_acts 407 = .ok (.iload 7, 2) := by decide +kernel
theorem dL_acts_409 : decode cL_acts 409 = .ok (.imul, 1) := by decide +kernel
theorem dL_acts_410 : decode cL_acts 410 = .ok (.iaload, 1) := by decide +kernel
theorem dL_acts_411 : decode cL_acts 411 = .ok (.aload_n 3, 1) := by decide +kernel
theorem dL_acts_412 : decode cL_acts 412 = .ok (.iconst 4, 1) := by decide +kernel
theorem dL_acts_413 : decode cL_acts 413 = .ok (.iload 7, 2) := by decide +kernel
theorem dL_acts_415 : decode cL_acts 415 = .ok (.imul, 1) := by decide +kernel
theorem dL_acts_416 : decode cL_acts 416 = .ok (.iconst 1, 1) := by decide +kernel
theorem dL_acts_417 : decode cL_acts 417 = .ok (.iadd, 1) := by decide +kernel
theorem dL_acts_418 : decode cL_acts 418 = .ok (.iaload, 1) := by decide +kernel
theorem dL_acts_419 : decode cL_acts 419 = .ok (.invokestatic 70, 3) := by decide +kernel
theorem dL_acts_422 : decode cL_acts 422 = .ok (.iload 11, 2) := by decide +kernel
theorem dL_acts_424 : decode cL_acts 424 = .ok (.if_icmp .ne 7, 3) := by decide +kernel
theorem dL_acts_427 : decode cL_acts 427 = .ok (.iconst 1, 1) := by decide +kernel
theorem dL_acts_428 : decode cL_acts 428 = .ok (.goto 4, 3) := by decide +kernel
theorem dL_acts_431 : decode cL_acts 431 = .ok (.iconst 0, 1) := by decide +kernel
theorem dL_acts_432 : decode cL_acts 432 = .ok (.ireturn, 1) := by decide +kernel
theorem dL_acts_433 : decode cL_acts 433 = .ok (.iload 6, 2) := by decide +kernel
theorem dL_acts_435 : decode cL_acts 435 = .ok (.bipush 25, 2) := by decide +kernel
theorem dL_acts_437 : decode cL_acts 437 = .ok (.idiv, 1) := by decide +kernel
theorem dL_acts_438 : decode cL_acts 438 = .ok (.iconst 5, 1) := by decide +kernel
theorem dL_acts_439 : decode cL_acts 439 = .ok (.irem, 1) := by decide +kernel
theorem dL_acts_440 : decode cL_acts 440 = .ok (.istore 12, 2) := by decide +kernel
theorem dL_acts_442 : decode cL_acts 442 = .ok (.aload_n 1, 1) := by decide +kernel
theorem dL_acts_443 : decode cL_acts 443 = .ok (.aload_n 2, 1) := by decide +kernel
theorem dL_acts_444 : decode cL_acts 444 = .ok (.aload_n 3, 1) := by decide +kernel
theorem dL_acts_445 : decode cL_acts 445 = .ok (.iload 8, 2) := by decide +kernel
theorem dL_acts_447 : decode cL_acts 447 = .ok (.invokestatic 63, 3) := by decide +kernel
theorem dL_acts_450 : decode cL_acts 450 = .ok (.istore 13, 2) := by decide +kernel
theorem dL_acts_452 : decode cL_acts 452 = .ok (.iload 13, 2) := by decide +kernel
theorem dL_acts_454 : decode cL_acts 454 = .ok (.ifCond .eq 15, 3) := by decide +kernel
theorem dL_acts_457 : decode cL_acts 457 = .ok (.iload 13, 2) := by decide +kernel
theorem dL_acts_459 : decode cL_acts 459 = .ok (.iconst 2, 1) := by decide +kernel
theorem dL_acts_460 : decode cL_acts 460 = .ok (.if_icmp .ne 30, 3) := by decide +kernel
theorem dL_acts_463 : decode cL_acts 463 = .ok (.iload 12, 2) := by decide +kernel
theorem dL_acts_465 : decode cL_acts 465 = .ok (.iconst 4, 1) := by decide +kernel
theorem dL_acts_466 : decode cL_acts 466 = .ok (.if_icmp .ge 24, 3) := by decide +kernel
theorem dL_acts_469 : decode cL_acts 469 = .ok (.aload_n 0, 1) := by decide +kernel
theorem dL_acts_470 : decode cL_acts 470 = .ok (.iload 7, 2) := by decide +kernel
theorem dL_acts_472 : decode cL_acts 472 = .ok (.iload 8, 2) := by decide +kernel
theorem dL_acts_474 : decode cL_acts 474 = .ok (.iload 12, 2) := by decide +kernel
theorem dL_acts_476 : decode cL_acts 476 = .ok (.invokestatic 74, 3) := by decide +kernel
theorem dL_acts_479 : decode cL_acts 479 = .ok (.ldc 77, 2) := by decide +kernel
theorem dL_acts_481 : decode cL_acts 481 = .ok (.if_icmp .ne 7, 3) := by decide +kernel
theorem dL_acts_484 : decode cL_acts 484 = .ok (.iconst 1, 1) := by decide +kernel
theorem dL_acts_485 : decode cL_acts 485 = .ok (.goto 4, 3) := by decide +kernel
theorem dL_acts_488 : decode cL_acts 488 = .ok (.iconst 0, 1) := by decide +kernel
theorem dL_acts_489 : decode cL_acts 489 = .ok (.ireturn, 1) := by decide +kernel
theorem dL_acts_490 : decode cL_acts 490 = .ok (.aload_n 0, 1) := by decide +kernel
theorem dL_acts_491 : decode cL_acts 491 = .ok (.iload 7, 2) := by decide +kernel
theorem dL_acts_493 : decode cL_acts 493 = .ok (.iload 8, 2) := by decide +kernel
theorem dL_acts_495 : decode cL_acts 495 = .ok (.iload 12, 2) := by decide +kernel
theorem dL_acts_497 : decode cL_acts 497 = .ok (.invokestatic 74, 3) := by decide +kernel
theorem dL_acts_500 : decode cL_acts 500 = .ok (.aload_n 1, 1) := by decide +kernel
theorem dL_acts_501 : decode cL_acts 501 = .ok (.aload_n 2, 1) := by decide +kernel
theorem dL_acts_502 : decode cL_acts 502 = .ok (.aload_n 3, 1) := by decide +kernel
theorem dL_acts_503 : decode cL_acts 503 = .ok (.aload 4, 2) := by decide +kernel
theorem dL_acts_505 : decode cL_acts 505 = .ok (.iload 7, 2) := by decide +kernel
theorem dL_acts_507 : decode cL_acts 507 = .ok (.iload 8, 2) := by decide +kernel
theorem dL_acts_509 : decode cL_acts 509 = .ok (.iload 12, 2) := by decide +kernel
theorem dL_acts_511 : decode cL_acts 511 = .ok (.invokestatic 78, 3) := by decide +kernel
theorem dL_acts_514 : decode cL_acts 514 = .ok (.if_icmp .ne 7, 3) := by decide +kernel
theorem dL_acts_517 : decode cL_acts 517 = .ok (.iconst 1, 1) := by decide +kernel
theorem dL_acts_518 : decode cL_acts 518 = .ok (.goto 4, 3) := by decide +kernel
theorem dL_acts_521 : decode cL_acts 521 = .ok (.iconst 0, 1) := by decide +kernel
theorem dL_acts_522 : decode cL_acts 522 = .ok (.ireturn, 1) := by decide +kernel
theorem dL_acts_523 : decode cL_acts 523 = .ok (.aload_n 0, 1) := by decide +kernel
theorem dL_acts_524 : decode cL_acts 524 = .ok (.iload 7, 2) := by decide +kernel
theorem dL_acts_526 : decode cL_acts 526 = .ok (.iload 6, 2) := by decide +kernel
theorem dL_acts_528 : decode cL_acts 528 = .ok (.bipush 25, 2) := by decide +kernel
theorem dL_acts_530 : decode cL_acts 530 = .ok (.idiv, 1) := by decide +kernel
theorem dL_acts_531 : decode cL_acts 531 = .ok (.iconst 4, 1) := by decide +kernel
theorem dL_acts_532 : decode cL_acts 532 = .ok (.irem, 1) := by decide +kernel
theorem dL_acts_533 : decode cL_acts 533 = .ok (.invokestatic 82, 3) := by decide +kernel
theorem dL_acts_536 : decode cL_acts 536 = .ok (.aload_n 1, 1) := by decide +kernel
theorem dL_acts_537 : decode cL_acts 537 = .ok (.aload_n 2, 1) := by decide +kernel
theorem dL_acts_538 : decode cL_acts 538 = .ok (.aload_n 3, 1) := by decide +kernel
theorem dL_acts_539 : decode cL_acts 539 = .ok (.aload 4, 2) := by decide +kernel
theorem dL_acts_541 : decode cL_acts 541 = .ok (.iload 7, 2) := by decide +kernel
theorem dL_acts_543 : decode cL_acts 543 = .ok (.iload 6, 2) := by decide +kernel
theorem dL_acts_545 : decode cL_acts 545 = .ok (.bipush 25, 2) := by decide +kernel
theorem dL_acts_547 : decode cL_acts 547 = .ok (.idiv, 1) := by decide +kernel
theorem dL_acts_548 : decode cL_acts 548 = .ok (.iconst 4, 1) := by decide +kernel
theorem dL_acts_549 : decode cL_acts 549 = .ok (.irem, 1) := by decide +kernel
theorem dL_acts_550 : decode cL_acts 550 = .ok (.invokestatic 85, 3) := by decide +kernel
theorem dL_acts_553 : decode cL_acts 553 = .ok (.if_icmp .ne 7, 3) := by decide +kernel
theorem dL_acts_556 : decode cL_acts 556 = .ok (.iconst 1, 1) := by decide +kernel
theorem dL_acts_557 : decode cL_acts 557 = .ok (.goto 4, 3) := by decide +kernel
theorem dL_acts_560 : decode cL_acts 560 = .ok (.iconst 0, 1) := by decide +kernel
theorem dL_acts_561 : decode cL_acts 561 = .ok (.ireturn, 1) := by decide +kernel
theorem dL_acts_562 : decode cL_acts 562 = .ok (.aload_n 1, 1) := by decide +kernel
theorem dL_acts_563 : decode cL_acts 563 = .ok (.aload_n 2, 1) := by decide +kernel
theorem dL_acts_564 : decode cL_acts 564 = .ok (.aload_n 3, 1) := by decide +kernel
theorem dL_acts_565 : decode cL_acts 565 = .ok (.aload 4, 2) := by decide +kernel
theorem dL_acts_567 : decode cL_acts 567 = .ok (.iload 7, 2) := by decide +kernel
theorem dL_acts_569 : decode cL_acts 569 = .ok (.invokestatic 35, 3) := by decide +kernel
theorem dL_acts_572 : decode cL_acts 572 = .ok (.aload_n 1, 1) := by decide +kernel
theorem dL_acts_573 : decode cL_acts 573 = .ok (.aload_n 3, 1) := by decide +kernel
theorem dL_acts_574 : decode cL_acts 574 = .ok (.iload 7, 2) := by decide +kernel
theorem dL_acts_576 : decode cL_acts 576 = .ok (.invokestatic 39, 3) := by decide +kernel
theorem dL_acts_579 : decode cL_acts 579 = .ok (.istore 14, 2) := by decide +kernel
theorem dL_acts_581 : decode cL_acts 581 = .ok (.aload 4, 2) := by decide +kernel
theorem dL_acts_583 : decode cL_acts 583 = .ok (.aload_n 1, 1) := by decide +kernel
theorem dL_acts_584 : decode cL_acts 584 = .ok (.iconst 4, 1) := by decide +kernel
theorem dL_acts_585 : decode cL_acts 585 = .ok (.iaload, 1) := by decide +kernel
theorem dL_acts_586 : decode cL_acts 586 = .ok (.iload 14, 2) := by decide +kernel
theorem dL_acts_588 : decode cL_acts 588 = .ok (.iastore, 1) := by decide +kernel
theorem dL_acts_589 : decode cL_acts 589 = .ok (.aload_n 1, 1) := by decide +kernel
theorem dL_acts_590 : decode cL_acts 590 = .ok (.iconst 4, 1) := by decide +kernel
theorem dL_acts_591 : decode cL_acts 591 = .ok (.dup2, 1) := by decide +kernel
theorem dL_acts_592 : decode cL_acts 592 = .ok (.iaload, 1) := by decide +kernel
theorem dL_acts_593 : decode cL_acts 593 = .ok (.iconst 1, 1) := by decide +kernel
theorem dL_acts_594 : decode cL_acts 594 = .ok (.iadd, 1) := by decide +kernel
theorem dL_acts_595 : decode cL_acts 595 = .ok (.iastore, 1) := by decide +kernel
theorem dL_acts_596 : decode cL_acts 596 = .ok (.aload 4, 2) := by decide +kernel
theorem dL_acts_598 : decode cL_acts 598 = .ok (.iconst 5, 1) := by decide +kernel
theorem dL_acts_599 : decode cL_acts 599 = .ok (.iconst 4, 1) := by decide +kernel
theorem dL_acts_600 : decode cL_acts 600 = .ok (.iload 14, 2) := by decide +kernel
theorem dL_acts_602 : decode cL_acts 602 = .ok (.imul, 1) := by decide +kernel
theorem dL_acts_603 : decode cL_acts 603 = .ok (.iadd, 1) := by decide +kernel
theorem dL_acts_604 : decode cL_acts 604 = .ok (.iload 6, 2) := by decide +kernel
theorem dL_acts_606 : decode cL_acts 606 = .ok (.iconst 5, 1) := by decide +kernel
theorem dL_acts_607 : decode cL_acts 607 = .ok (.idiv, 1) := by decide +kernel
theorem dL_acts_608 : decode cL_acts 608 = .ok (.bipush 120, 2) := by decide +kernel
theorem dL_acts_610 : decode cL_acts 610 = .ok (.irem, 1) := by decide +kernel
theorem dL_acts_611 : decode cL_acts 611 = .ok (.iastore, 1) := by decide +kernel
theorem dL_acts_612 : decode cL_acts 612 = .ok (.aload 4, 2) := by decide +kernel
theorem dL_acts_614 : decode cL_acts 614 = .ok (.bipush 6, 2) := by decide +kernel
theorem dL_acts_616 : decode cL_acts 616 = .ok (.iconst 4, 1) := by decide +kernel
theorem dL_acts_617 : decode cL_acts 617 = .ok (.iload 14, 2) := by decide +kernel
theorem dL_acts_619 : decode cL_acts 619 = .ok (.imul, 1) := by decide +kernel
theorem dL_acts_620 : decode cL_acts 620 = .ok (.iadd, 1) := by decide +kernel
theorem dL_acts_621 : decode cL_acts 621 = .ok (.iload 6, 2) := by decide +kernel
theorem dL_acts_623 : decode cL_acts 623 = .ok (.bipush 7, 2) := by decide +kernel
theorem dL_acts_625 : decode cL_acts 625 = .ok (.idiv, 1) := by decide +kernel
theorem dL_acts_626 : decode cL_acts 626 = .ok (.bipush 80, 2) := by decide +kernel
theorem dL_acts_628 : decode cL_acts 628 = .ok (.irem, 1) := by decide +kernel
theorem dL_acts_629 : decode cL_acts 629 = .ok (.iastore, 1) := by decide +kernel
theorem dL_acts_630 : decode cL_acts 630 = .ok (.aload 4, 2) := by decide +kernel
theorem dL_acts_632 : decode cL_acts 632 = .ok (.bipush 7, 2) := by decide +kernel
theorem dL_acts_634 : decode cL_acts 634 = .ok (.iconst 4, 1) := by decide +kernel
theorem dL_acts_635 : decode cL_acts 635 = .ok (.iload 14, 2) := by decide +kernel
theorem dL_acts_637 : decode cL_acts 637 = .ok (.imul, 1) := by decide +kernel
theorem dL_acts_638 : decode cL_acts 638 = .ok (.iadd, 1) := by decide +kernel
theorem dL_acts_639 : decode cL_acts 639 = .ok (.iconst 1, 1) := by decide +kernel
theorem dL_acts_640 : decode cL_acts 640 = .ok (.iload 6, 2) := by decide +kernel
theorem dL_acts_642 : decode cL_acts 642 = .ok (.bipush 11, 2) := by decide +kernel
theorem dL_acts_644 : decode cL_acts 644 = .ok (.idiv, 1) := by decide +kernel
theorem dL_acts_645 : decode cL_acts 645 = .ok (.bipush 60, 2) := by decide +kernel
theorem dL_acts_647 : decode cL_acts 647 = .ok (.irem, 1) := by decide +kernel
theorem dL_acts_648 : decode cL_acts 648 = .ok (.iadd, 1) := by decide +kernel
theorem dL_acts_649 : decode cL_acts 649 = .ok (.iastore, 1) := by decide +kernel
theorem dL_acts_650 : decode cL_acts 650 = .ok (.aload 4, 2) := by decide +kernel
theorem dL_acts_652 : decode cL_acts 652 = .ok (.bipush 8, 2) := by decide +kernel
theorem dL_acts_654 : decode cL_acts 654 = .ok (.iconst 4, 1) := by decide +kernel
theorem dL_acts_655 : decode cL_acts 655 = .ok (.iload 14, 2) := by decide +kernel
theorem dL_acts_657 : decode cL_acts 657 = .ok (.imul, 1) := by decide +kernel
theorem dL_acts_658 : decode cL_acts 658 = .ok (.iadd, 1) := by decide +kernel
theorem dL_acts_659 : decode cL_acts 659 = .ok (.iconst 1, 1) := by decide +kernel
theorem dL_acts_660 : decode cL_acts 660 = .ok (.iload 6, 2) := by decide +kernel
theorem dL_acts_662 : decode cL_acts 662 = .ok (.bipush 13, 2) := by decide +kernel
theorem dL_acts_664 : decode cL_acts 664 = .ok (.idiv, 1) := by decide +kernel
theorem dL_acts_665 : decode cL_acts 665 = .ok (.bipush 40, 2) := by decide +kernel
theorem dL_acts_667 : decode cL_acts 667 = .ok (.irem, 1) := by decide +kernel
theorem dL_acts_668 : decode cL_acts 668 = .ok (.iadd, 1) := by decide +kernel
theorem dL_acts_669 : decode cL_acts 669 = .ok (.iastore, 1) := by decide +kernel
theorem dL_acts_670 : decode cL_acts 670 = .ok (.aload_n 0, 1) := by decide +kernel
theorem dL_acts_671 : decode cL_acts 671 = .ok (.iload 7, 2) := by decide +kernel
theorem dL_acts_673 : decode cL_acts 673 = .ok (.aload 4, 2) := by decide +kernel
theorem dL_acts_675 : decode cL_acts 675 = .ok (.iconst 5, 1) := by decide +kernel
theorem dL_acts_676 : decode cL_acts 676 = .ok (.iconst 4, 1) := by decide +kernel
theorem dL_acts_677 : decode cL_acts 677 = .ok (.iload 14, 2) := by decide +kernel
theorem dL_acts_679 : decode cL_acts 679 = .ok (.imul, 1) := by decide +kernel
theorem dL_acts_680 : decode cL_acts 680 = .ok (.iadd, 1) := by decide +kernel
theorem dL_acts_681 : decode cL_acts 681 = .ok (.iaload, 1) := by decide +kernel
theorem dL_acts_682 : decode cL_acts 682 = .ok (.aload 4, 2) := by decide +kernel
theorem dL_acts_684 : decode cL_acts 684 = .ok (.bipush 6, 2) := by decide +kernel
theorem dL_acts_686 : decode cL_acts 686 = .ok (.iconst 4, 1) := by decide +kernel
theorem dL_acts_687 : decode cL_acts 687 = .ok (.iload 14, 2) := by decide +kernel
theorem dL_acts_689 : decode cL_acts 689 = .ok (.imul, 1) := by decide +kernel
theorem dL_acts_690 : decode cL_acts 690 = .ok (.iadd, 1) := by decide +kernel
theorem dL_acts_691 : decode cL_acts 691 = .ok (.iaload, 1) := by decide +kernel
theorem dL_acts_692 : decode cL_acts 692 = .ok (.aload 4, 2) := by decide +kernel
theorem dL_acts_694 : decode cL_acts 694 = .ok (.bipush 7, 2) := by decide +kernel
theorem dL_acts_696 : decode cL_acts 696 = .ok (.iconst 4, 1) := by decide +kernel
theorem dL_acts_697 : decode cL_acts 697 = .ok (.iload 14, 2) := by decide +kernel
theorem dL_acts_699 : decode cL_acts 699 = .ok (.imul, 1) := by decide +kernel
theorem dL_acts_700 : decode cL_acts 700 = .ok (.iadd, 1) := by decide +kernel
theorem dL_acts_701 : decode cL_acts 701 = .ok (.iaload, 1) := by decide +kernel
theorem dL_acts_702 : decode cL_acts 702 = .ok (.aload 4, 2) := by decide +kernel
theorem dL_acts_704 : decode cL_acts 704 = .ok (.bipush 8, 2) := by decide +kernel
theorem dL_acts_706 : decode cL_acts 706 = .ok (.iconst 4, 1) := by decide +kernel
theorem dL_acts_707 : decode cL_acts 707 = .ok (.iload 14, 2) := by decide +kernel
theorem dL_acts_709 : decode cL_acts 709 = .ok (.imul, 1) := by decide +kernel
theorem dL_acts_710 : decode cL_acts 710 = .ok (.iadd, 1) := by decide +kernel
theorem dL_acts_711 : decode cL_acts 711 = .ok (.iaload, 1) := by decide +kernel
theorem dL_acts_712 : decode cL_acts 712 = .ok (.invokestatic 89, 3) := by decide +kernel
theorem dL_acts_715 : decode cL_acts 715 = .ok (.aload_n 1, 1) := by decide +kernel
theorem dL_acts_716 : decode cL_acts 716 = .ok (.iconst 4, 1) := by decide +kernel
theorem dL_acts_717 : decode cL_acts 717 = .ok (.iaload, 1) := by decide +kernel
theorem dL_acts_718 : decode cL_acts 718 = .ok (.if_icmp .ne 7, 3) := by decide +kernel
theorem dL_acts_721 : decode cL_acts 721 = .ok (.iconst 1, 1) := by decide +kernel
theorem dL_acts_722 : decode cL_acts 722 = .ok (.goto 4, 3) := by decide +kernel
theorem dL_acts_725 : decode cL_acts 725 = .ok (.iconst 0, 1) := by decide +kernel
theorem dL_acts_726 : decode cL_acts 726 = .ok (.ireturn, 1) := by decide +kernel
theorem dL_acts_727 : decode cL_acts 727 = .ok (.iload 9, 2) := by decide +kernel
theorem dL_acts_729 : decode cL_acts 729 = .ok (.iconst 2, 1) := by decide +kernel
theorem dL_acts_730 : decode cL_acts 730 = .ok (.if_icmp .ge 20, 3) := by decide +kernel
theorem dL_acts_733 : decode cL_acts 733 = .ok (.aload_n 0, 1) := by decide +kernel
theorem dL_acts_734 : decode cL_acts 734 = .ok (.iload 7, 2) := by decide +kernel
theorem dL_acts_736 : decode cL_acts 736 = .ok (.invokestatic 93, 3) := by decide +kernel
theorem dL_acts_739 : decode cL_acts 739 = .ok (.ldc 77, 2) := by decide +kernel
theorem dL_acts_741 : decode cL_acts 741 = .ok (.if_icmp .ne 7, 3) := by decide +kernel
theorem dL_acts_744 : decode cL_acts 744 = .ok (.iconst 1, 1) := by decide +kernel
theorem dL_acts_745 : decode cL_acts 745 = .ok (.goto 4, 3) := by decide +kernel
theorem dL_acts_748 : decode cL_acts 748 = .ok (.iconst 0, 1) := by decide +kernel
theorem dL_acts_749 : decode cL_acts 749 = .ok (.ireturn, 1) := by decide +kernel
theorem dL_acts_750 : decode cL_acts 750 = .ok (.iconst 0, 1) := by decide +kernel
theorem dL_acts_751 : decode cL_acts 751 = .ok (.istore 15, 2) := by decide +kernel
theorem dL_acts_753 : decode cL_acts 753 = .ok (.aload 4, 2) := by decide +kernel
theorem dL_acts_755 : decode cL_acts 755 = .ok (.iload 15, 2) := by decide +kernel
theorem dL_acts_757 : decode cL_acts 757 = .ok (.iaload, 1) := by decide +kernel
theorem dL_acts_758 : decode cL_acts 758 = .ok (.aload_n 3, 1) := by decide +kernel
theorem dL_acts_759 : decode cL_acts 759 = .ok (.iconst 4, 1) := by decide +kernel
theorem dL_acts_760 : decode cL_acts 760 = .ok (.iload 7, 2) := by decide +kernel
theorem dL_acts_762 : decode cL_acts 762 = .ok (.imul, 1) := by decide +kernel
theorem dL_acts_763 : decode cL_acts 763 = .ok (.iconst 2, 1) := by decide +kernel
theorem dL_acts_764 : decode cL_acts 764 = .ok (.iadd, 1) := by decide +kernel
theorem dL_acts_765 : decode cL_acts 765 = .ok (.iaload, 1) := by decide +kernel
theorem dL_acts_766 : decode cL_acts 766 = .ok (.if_icmp .eq 9, 3) := by decide +kernel
theorem dL_acts_769 : decode cL_acts 769 = .ok (.iinc 15 1, 3) := by decide +kernel
theorem dL_acts_772 : decode cL_acts 772 = .ok (.goto (-19), 3) := by decide +kernel
theorem dL_acts_775 : decode cL_acts 775 = .ok (.iload 15, 2) := by decide +kernel
theorem dL_acts_777 : decode cL_acts 777 = .ok (.istore 16, 2) := by decide +kernel
theorem dL_acts_779 : decode cL_acts 779 = .ok (.iload 16, 2) := by decide +kernel
theorem dL_acts_781 : decode cL_acts 781 = .ok (.aload_n 1, 1) := by decide +kernel
theorem dL_acts_782 : decode cL_acts 782 = .ok (.iconst 4, 1) := by decide +kernel
theorem dL_acts_783 : decode cL_acts 783 = .ok (.iaload, 1) := by decide +kernel
theorem dL_acts_784 : decode cL_acts 784 = .ok (.iconst 1, 1) := by decide +kernel
theorem dL_acts_785 : decode cL_acts 785 = .ok (.isub, 1) := by decide +kernel
theorem dL_acts_786 : decode cL_acts 786 = .ok (.if_icmp .ge 21, 3) := by decide +kernel
theorem dL_acts_789 : decode cL_acts 789 = .ok (.aload 4, 2) := by decide +kernel
theorem dL_acts_791 : decode cL_acts 791 = .ok (.iload 16, 2) := by decide +kernel
theorem dL_acts_793 : decode cL_acts 793 = .ok (.aload 4, 2) := by decide +kernel
theorem dL_acts_795 : decode cL_acts 795 = .ok (.iload 16, 2) := by decide +kernel
theorem dL_acts_797 : decode cL_acts 797 = .ok (.iconst 1, 1) := by decide +kernel
theorem dL_acts_798 : decode cL_acts 798 = .ok (.iadd, 1) := by decide +kernel
theorem dL_acts_799 : decode cL_acts 799 = .ok (.iaload, 1) := by decide +kernel
theorem dL_acts_800 : decode cL_acts 800 = .ok (.iastore, 1) := by decide +kernel
theorem dL_acts_801 : decode cL_acts 801 = .ok (.iinc 16 1, 3) := by decide +kernel
theorem dL_acts_804 : decode cL_acts 804 = .ok (.goto (-25), 3) := by decide +kernel
theorem dL_acts_807 : decode cL_acts 807 = .ok (.aload 4, 2) := by decide +kernel
theorem dL_acts_809 : decode cL_acts 809 = .ok (.aload_n 1, 1) := by decide +kernel
theorem dL_acts_810 : decode cL_acts 810 = .ok (.iconst 4, 1) := by decide +kernel
theorem dL_acts_811 : decode cL_acts 811 = .ok (.iaload, 1) := by decide +kernel
theorem dL_acts_812 : decode cL_acts 812 = .ok (.iconst 1, 1) := by decide +kernel
theorem dL_acts_813 : decode cL_acts 813 = .ok (.isub, 1) := by decide +kernel
theorem dL_acts_814 : decode cL_acts 814 = .ok (.aload_n 3, 1) := by decide +kernel
theorem dL_acts_815 : decode cL_acts 815 = .ok (.iconst 4, 1) := by decide +kernel
theorem dL_acts_816 : decode cL_acts 816 = .ok (.iload 7, 2) := by decide +kernel
theorem dL_acts_818 : decode cL_acts 818 = .ok (.imul, 1) := by decide +kernel
theorem dL_acts_819 : decode cL_acts 819 = .ok (.iconst 2, 1) := by decide +kernel
theorem dL_acts_820 : decode cL_acts 820 = .ok (.iadd, 1) := by decide +kernel
theorem dL_acts_821 : decode cL_acts 821 = .ok (.iaload, 1) := by decide +kernel
theorem dL_acts_822 : decode cL_acts 822 = .ok (.iastore, 1) := by decide +kernel
theorem dL_acts_823 : decode cL_acts 823 = .ok (.aload_n 0, 1) := by decide +kernel
theorem dL_acts_824 : decode cL_acts 824 = .ok (.iload 7, 2) := by decide +kernel
theorem dL_acts_826 : decode cL_acts 826 = .ok (.invokestatic 93, 3) := by decide +kernel
theorem dL_acts_829 : decode cL_acts 829 = .ok (.iload 15, 2) := by decide +kernel
theorem dL_acts_831 : decode cL_acts 831 = .ok (.if_icmp .ne 7, 3) := by decide +kernel
theorem dL_acts_834 : decode cL_acts 834 = .ok (.iconst 1, 1) := by decide +kernel
theorem dL_acts_835 : decode cL_acts 835 = .ok (.goto 4, 3) := by decide +kernel
theorem dL_acts_838 : decode cL_acts 838 = .ok (.iconst 0, 1) := by decide +kernel
theorem dL_acts_839 : decode cL_acts 839 = .ok (.ireturn, 1) := by decide +kernel
theorem dL_acts_840 : decode cL_acts 840 = .ok (.aload_n 1, 1) := by decide +kernel
theorem dL_acts_841 : decode cL_acts 841 = .ok (.aload_n 2, 1) := by decide +kernel
theorem dL_acts_842 : decode cL_acts 842 = .ok (.aload_n 3, 1) := by decide +kernel
theorem dL_acts_843 : decode cL_acts 843 = .ok (.aload 4, 2) := by decide +kernel
theorem dL_acts_845 : decode cL_acts 845 = .ok (.iload 7, 2) := by decide +kernel
theorem dL_acts_847 : decode cL_acts 847 = .ok (.invokestatic 35, 3) := by decide +kernel
theorem dL_acts_850 : decode cL_acts 850 = .ok (.iload 6, 2) := by decide +kernel
theorem dL_acts_852 : decode cL_acts 852 = .ok (.iconst 3, 1) := by decide +kernel
theorem dL_acts_853 : decode cL_acts 853 = .ok (.irem, 1) := by decide +kernel
theorem dL_acts_854 : decode cL_acts 854 = .ok (.ifCond .le 25, 3) := by decide +kernel
theorem dL_acts_857 : decode cL_acts 857 = .ok (.iload 9, 2) := by decide +kernel
theorem dL_acts_859 : decode cL_acts 859 = .ok (.ifCond .ne 20, 3) := by decide +kernel
theorem dL_acts_862 : decode cL_acts 862 = .ok (.aload_n 0, 1) := by decide +kernel
theorem dL_acts_863 : decode cL_acts 863 = .ok (.iload 7, 2) := by decide +kernel
theorem dL_acts_865 : decode cL_acts 865 = .ok (.invokestatic 97, 3) := by decide +kernel
theorem dL_acts_868 : decode cL_acts 868 = .ok (.ifCond .ne 7, 3) := by decide +kernel
theorem dL_acts_871 : decode cL_acts 871 = .ok (.iconst 1, 1) := by decide +kernel
theorem dL_acts_872 : decode cL_acts 872 = .ok (.goto 23, 3) := by decide +kernel
theorem dL_acts_875 : decode cL_acts 875 = .ok (.iconst 0, 1) := by decide +kernel
theorem dL_acts_876 : decode cL_acts 876 = .ok (.goto 19, 3) := by decide +kernel
theorem dL_acts_879 : decode cL_acts 879 = .ok (.aload_n 0, 1) := by decide +kernel
theorem dL_acts_880 : decode cL_acts 880 = .ok (.iload 7, 2) := by decide +kernel
theorem dL_acts_882 : decode cL_acts 882 = .ok (.invokestatic 97, 3) := by decide +kernel
theorem dL_acts_885 : decode cL_acts 885 = .ok (.iload 9, 2) := by decide +kernel
theorem dL_acts_887 : decode cL_acts 887 = .ok (.if_icmp .ne 7, 3) := by decide +kernel
theorem dL_acts_890 : decode cL_acts 890 = .ok (.iconst 1, 1) := by decide +kernel
theorem dL_acts_891 : decode cL_acts 891 = .ok (.goto 4, 3) := by decide +kernel
theorem dL_acts_894 : decode cL_acts 894 = .ok (.iconst 0, 1) := by decide +kernel
theorem dL_acts_895 : decode cL_acts 895 = .ok (.ireturn, 1) := by decide +kernel
theorem dL_acts_896 : decode cL_acts 896 = .ok (.iload 6, 2) := by decide +kernel
theorem dL_acts_898 : decode cL_acts 898 = .ok (.bipush 25, 2) := by decide +kernel
theorem dL_acts_900 : decode cL_acts 900 = .ok (.idiv, 1) := by decide +kernel
theorem dL_acts_901 : decode cL_acts 901 = .ok (.iconst 4, 1) := by decide +kernel
theorem dL_acts_902 : decode cL_acts 902 = .ok (.irem, 1) := by decide +kernel
theorem dL_acts_903 : decode cL_acts 903 = .ok (.istore 16, 2) := by decide +kernel
theorem dL_acts_905 : decode cL_acts 905 = .ok (.iload 9, 2) := by decide +kernel
theorem dL_acts_907 : decode cL_acts 907 = .ok (.ifCond .eq 21, 3) := by decide +kernel
theorem dL_acts_910 : decode cL_acts 910 = .ok (.iload 16, 2) := by decide +kernel
theorem dL_acts_912 : decode cL_acts 912 = .ok (.aload_n 1, 1) := by decide +kernel
theorem dL_acts_913 : decode cL_acts 913 = .ok (.aload_n 3, 1) := by decide +kernel
theorem dL_acts_914 : decode cL_acts 914 = .ok (.aload_n 3, 1) := by decide +kernel
theorem dL_acts_915 : decode cL_acts 915 = .ok (.iconst 4, 1) := by decide +kernel
theorem dL_acts_916 : decode cL_acts 916 = .ok (.iload 7, 2) := by decide +kernel
theorem dL_acts_918 : decode cL_acts 918 = .ok (.imul, 1) := by decide +kernel
theorem dL_acts_919 : decode cL_acts 919 = .ok (.iconst 2, 1) := by decide +kernel
theorem dL_acts_920 : decode cL_acts 920 = .ok (.iadd, 1) := by decide +kernel
theorem dL_acts_921 : decode cL_acts 921 = .ok (.iaload, 1) := by decide +kernel
theorem dL_acts_922 : decode cL_acts 922 = .ok (.invokestatic 22, 3) := by decide +kernel
theorem dL_acts_925 : decode cL_acts 925 = .ok (.if_icmp .lt 32, 3) := by decide +kernel
theorem dL_acts_928 : decode cL_acts 928 = .ok (.aload_n 0, 1) := by decide +kernel
theorem dL_acts_929 : decode cL_acts 929 = .ok (.iload 7, 2) := by decide +kernel
theorem dL_acts_931 : decode cL_acts 931 = .ok (.iload 16, 2) := by decide +kernel
theorem dL_acts_933 : decode cL_acts 933 = .ok (.invokestatic 100, 3) := by decide +kernel
theorem dL_acts_936 : decode cL_acts 936 = .ok (.iload 9, 2) := by decide +kernel
theorem dL_acts_938 : decode cL_acts 938 = .ok (.ifCond .ne 8, 3) := by decide +kernel
theorem dL_acts_941 : decode cL_acts 941 = .ok (.ldc 77, 2) := by decide +kernel
theorem dL_acts_943 : decode cL_acts 943 = .ok (.goto 5, 3) := by decide +kernel
theorem dL_acts_946 : decode cL_acts 946 = .ok (.ldc 103, 2) := by decide +kernel
theorem dL_acts_948 : decode cL_acts 948 = .ok (.if_icmp .ne 7, 3) := by decide +kernel
theorem dL_acts_951 : decode cL_acts 951 = .ok (.iconst 1, 1) := by decide +kernel
theorem dL_acts_952 : decode cL_acts 952 = .ok (.goto 4, 3) := by decide +kernel
theorem dL_acts_955 : decode cL_acts 955 = .ok (.iconst 0, 1) := by decide +kernel
theorem dL_acts_956 : decode cL_acts 956 = .ok (.ireturn, 1) := by decide +kernel
theorem dL_acts_957 : decode cL_acts 957 = .ok (.aload_n 3, 1) := by decide +kernel
theorem dL_acts_958 : decode cL_acts 958 = .ok (.iconst 4, 1) := by decide +kernel
theorem dL_acts_959 : decode cL_acts 959 = .ok (.iload 7, 2) := by decide +kernel
theorem dL_acts_961 : decode cL_acts 961 = .ok (.imul, 1) := by decide +kernel
theorem dL_acts_962 : decode cL_acts 962 = .ok (.iconst 3, 1) := by decide +kernel
theorem dL_acts_963 : decode cL_acts 963 = .ok (.iadd, 1) := by decide +kernel
theorem dL_acts_964 : decode cL_acts 964 = .ok (.iaload, 1) := by decide +kernel
theorem dL_acts_965 : decode cL_acts 965 = .ok (.istore 17, 2) := by decide +kernel
theorem dL_acts_967 : decode cL_acts 967 = .ok (.iconst 0, 1) := by decide +kernel
theorem dL_acts_968 : decode cL_acts 968 = .ok (.istore 18, 2) := by decide +kernel
theorem dL_acts_970 : decode cL_acts 970 = .ok (.iload 18, 2) := by decide +kernel
theorem dL_acts_972 : decode cL_acts 972 = .ok (.aload_n 1, 1) := by decide +kernel
theorem dL_acts_973 : decode cL_acts 973 = .ok (.iconst 2, 1) := by decide +kernel
theorem dL_acts_974 : decode cL_acts 974 = .ok (.iaload, 1) := by decide +kernel
theorem dL_acts_975 : decode cL_acts 975 = .ok (.if_icmp .ge 110, 3) := by decide +kernel
theorem dL_acts_978 : decode cL_acts 978 = .ok (.aload_n 3, 1) := by decide +kernel
theorem dL_acts_979 : decode cL_acts 979 = .ok (.iconst 4, 1) := by decide +kernel
theorem dL_acts_980 : decode cL_acts 980 = .ok (.iload 18, 2) := by decide +kernel
theorem dL_acts_982 : decode cL_acts 982 = .ok (.imul, 1) := by decide +kernel
theorem dL_acts_983 : decode cL_acts 983 = .ok (.iconst 3, 1) := by decide +kernel
theorem dL_acts_984 : decode cL_acts 984 = .ok (.iadd, 1) := by decide +kernel
theorem dL_acts_985 : decode cL_acts 985 = .ok (.iaload, 1) := by decide +kernel
theorem dL_acts_986 : decode cL_acts 986 = .ok (.istore 19, 2) := by decide +kernel
theorem dL_acts_988 : decode cL_acts 988 = .ok (.aload_n 3, 1) := by decide +kernel
theorem dL_acts_989 : decode cL_acts 989 = .ok (.iconst 4, 1) := by decide +kernel
theorem dL_acts_990 : decode cL_acts 990 = .ok (.iload 18, 2) := by decide +kernel
theorem dL_acts_992 : decode cL_acts 992 = .ok (.imul, 1) := by decide +kernel
theorem dL_acts_993 : decode cL_acts 993 = .ok (.iconst 2, 1) := by decide +kernel
theorem dL_acts_994 : decode cL_acts 994 = .ok (.iadd, 1) := by decide +kernel
theorem dL_acts_995 : decode cL_acts 995 = .ok (.iaload, 1) := by decide +kernel
theorem dL_acts_996 : decode cL_acts 996 = .ok (.aload_n 3, 1) := by decide +kernel
theorem dL_acts_997 : decode cL_acts 997 = .ok (.iconst 4, 1) := by decide +kernel
theorem dL_acts_998 : decode cL_acts 998 = .ok (.iload 7, 2) := by decide +kernel
theorem dL_acts_1000 : decode cL_acts 1000 = .ok (.imul, 1) := by decide +kernel
theorem dL_acts_1001 : decode cL_acts 1001 = .ok (.iconst 2, 1) := by decide +kernel
theorem dL_acts_1002 : decode cL_acts 1002 = .ok (.iadd, 1) := by decide +kernel
theorem dL_acts_1003 : decode cL_acts 1003 = .ok (.iaload, 1) := by decide +kernel
theorem dL_acts_1004 : decode cL_acts 1004 = .ok (.if_icmp .ne 14, 3) := by decide +kernel
theorem dL_acts_1007 : decode cL_acts 1007 = .ok (.iload 18, 2) := by decide +kernel
theorem dL_acts_1009 : decode cL_acts 1009 = .ok (.iload 7, 2) := by decide +kernel
theorem dL_acts_1011 : decode cL_acts 1011 = .ok (.if_icmp .eq 7, 3) := by decide +kernel
theorem dL_acts_1014 : decode cL_acts 1014 = .ok (.iconst 1, 1) := by decide +kernel
theorem dL_acts_1015 : decode cL_acts 1015 = .ok (.goto 4, 3) := by decide +kernel
theorem dL_acts_1018 : decode cL_acts 1018 = .ok (.iconst 0, 1) := by decide +kernel
theorem dL_acts_1019 : decode cL_acts 1019 = .ok (.istore 20, 2) := by decide +kernel
theorem dL_acts_1021 : decode cL_acts 1021 = .ok (.aload_n 3, 1) := by decide +kernel
theorem dL_acts_1022 : decode cL_acts 1022 = .ok (.iconst 4, 1) := by decide +kernel
theorem dL_acts_1023 : decode cL_acts 1023 = .ok (.iload 18, 2) := by decide +kernel
theorem dL_acts_1025 : decode cL_acts 1025 = .ok (.imul, 1) := by decide +kernel
theorem dL_acts_1026 : decode cL_acts 1026 = .ok (.iconst 3, 1) := by decide +kernel
theorem dL_acts_1027 : decode cL_acts 1027 = .ok (.iadd, 1) := by decide +kernel
theorem dL_acts_1028 : decode cL_acts 1028 = .ok (.dup2, 1) := by decide +kernel
theorem dL_acts_1029 : decode cL_acts 1029 = .ok (.iaload, 1) := by decide +kernel
theorem dL_acts_1030 : decode cL_acts 1030 = .ok (.iload 20, 2) := by decide +kernel
theorem dL_acts_1032 : decode cL_acts 1032 = .ok (.ifCond .eq 21, 3) := by decide +kernel
theorem dL_acts_1035 : decode cL_acts 1035 = .ok (.iload 19, 2) := by decide +kernel
theorem dL_acts_1037 : decode cL_acts 1037 = .ok (.iload 17, 2) := by decide +kernel
theorem dL_acts_1039 : decode cL_acts 1039 = .ok (.if_icmp .le 14, 3) := by decide +kernel
theorem dL_acts_1042 : decode cL_acts 1042 = .ok (.iload 19, 2) := by decide +kernel
theorem dL_acts_1044 : decode cL_acts 1044 = .ok (.iload 16, 2) := by decide +kernel
theorem dL_acts_1046 : decode cL_acts 1046 = .ok (.if_icmp .gt 7, 3) := by decide +kernel
theorem dL_acts_1049 : decode cL_acts 1049 = .ok (.iconst (-1), 1) := by decide +kernel
theorem dL_acts_1050 : decode cL_acts 1050 = .ok (.goto 27, 3) := by decide +kernel
theorem dL_acts_1053 : decode cL_acts 1053 = .ok (.iload 20, 2) := by decide +kernel
theorem dL_acts_1055 : decode cL_acts 1055 = .ok (.ifCond .eq 21, 3) := by decide +kernel
theorem dL_acts_1058 : decode cL_acts 1058 = .ok (.iload 19, 2) := by decide +kernel
theorem dL_acts_1060 : decode cL_acts 1060 = .ok (.iload 17, 2) := by decide +kernel
theorem dL_acts_1062 : decode cL_acts 1062 = .ok (.if_icmp .ge 14, 3) := by decide +kernel
theorem dL_acts_1065 : decode cL_acts 1065 = .ok (.iload 19, 2) := by decide +kernel
theorem dL_acts_1067 : decode cL_acts 1067 = .ok (.iload 16, 2) := by decide +kernel
theorem dL_acts_1069 : decode cL_acts 1069 = .ok (.if_icmp .lt 7, 3) := by decide +kernel
theorem dL_acts_1072 : decode cL_acts 1072 = .ok (.iconst 1, 1) := by decide +kernel
theorem dL_acts_1073 : decode cL_acts 1073 = .ok (.goto 4, 3) := by decide +kernel
theorem dL_acts_1076 : decode cL_acts 1076 = .ok (.iconst 0, 1) := by decide +kernel
theorem dL_acts_1077 : decode cL_acts 1077 = .ok (.iadd, 1) := by decide +kernel
theorem dL_acts_1078 : decode cL_acts 1078 = .ok (.iastore, 1) := by decide +kernel
theorem dL_acts_1079 : decode cL_acts 1079 = .ok (.iinc 18 1, 3) := by decide +kernel
theorem dL_acts_1082 : decode cL_acts 1082 = .ok (.goto (-112), 3) := by decide +kernel
theorem dL_acts_1085 : decode cL_acts 1085 = .ok (.aload_n 3, 1) := by decide +kernel
theorem dL_acts_1086 : decode cL_acts 1086 = .ok (.iconst 4, 1) := by decide +kernel
theorem dL_acts_1087 : decode cL_acts 1087 = .ok (.iload 7, 2) := by decide +kernel
theorem dL_acts_1089 : decode cL_acts 1089 = .ok (.imul, 1) := by decide +kernel
theorem dL_acts_1090 : decode cL_acts 1090 = .ok (.iconst 3, 1) := by decide +kernel
theorem dL_acts_1091 : decode cL_acts 1091 = .ok (.iadd, 1) := by decide +kernel
theorem dL_acts_1092 : decode cL_acts 1092 = .ok (.iload 16, 2) := by decide +kernel
theorem dL_acts_1094 : decode cL_acts 1094 = .ok (.iastore, 1) := by decide +kernel
theorem dL_acts_1095 : decode cL_acts 1095 = .ok (.aload_n 0, 1) := by decide +kernel
theorem dL_acts_1096 : decode cL_acts 1096 = .ok (.iload 7, 2) := by decide +kernel
theorem dL_acts_1098 : decode cL_acts 1098 = .ok (.iload 16, 2) := by decide +kernel
theorem dL_acts_1100 : decode cL_acts 1100 = .ok (.invokestatic 100, 3) := by decide +kernel
theorem dL_acts_1103 : decode cL_acts 1103 = .ok (.iload 17, 2) := by decide +kernel
theorem dL_acts_1105 : decode cL_acts 1105 = .ok (.if_icmp .ne 7, 3) := by decide +kernel
theorem dL_acts_1108 : decode cL_acts 1108 = .ok (.iconst 1, 1) := by decide +kernel
theorem dL_acts_1109 : decode cL_acts 1109 = .ok (.goto 4, 3) := by decide +kernel
theorem dL_acts_1112 : decode cL_acts 1112 = .ok (.iconst 0, 1) := by decide +kernel
theorem dL_acts_1113 : decode cL_acts 1113 = .ok (.ireturn, 1) := by decide +kernel
theorem dL_acts_1114 : decode cL_acts 1114 = .ok (.aload_n 1, 1) := by decide +kernel
theorem dL_acts_1115 : decode cL_acts 1115 = .ok (.aload_n 2, 1) := by decide +kernel
theorem dL_acts_1116 : decode cL_acts 1116 = .ok (.aload_n 3, 1) := by decide +kernel
theorem dL_acts_1117 : decode cL_acts 1117 = .ok (.iconst 4, 1) := by decide +kernel
theorem dL_acts_1118 : decode cL_acts 1118 = .ok (.iload 7, 2) := by decide +kernel
theorem dL_acts_1120 : decode cL_acts 1120 = .ok (.imul, 1) := by decide +kernel
theorem dL_acts_1121 : decode cL_acts 1121 = .ok (.iconst 2, 1) := by decide +kernel
theorem dL_acts_1122 : decode cL_acts 1122 = .ok (.iadd, 1) := by decide +kernel
theorem dL_acts_1123 : decode cL_acts 1123 = .ok (.iaload, 1) := by decide +kernel
theorem dL_acts_1124 : decode cL_acts 1124 = .ok (.ifCond .ge 8, 3) := by decide +kernel
theorem dL_acts_1127 : decode cL_acts 1127 = .ok (.bipush 9, 2) := by decide +kernel
theorem dL_acts_1129 : decode cL_acts 1129 = .ok (.goto 11, 3) := by decide +kernel
theorem dL_acts_1132 : decode cL_acts 1132 = .ok (.aload_n 3, 1) := by decide +kernel
theorem dL_acts_1133 : decode cL_acts 1133 = .ok (.iconst 4, 1) := by decide +kernel
theorem dL_acts_1134 : decode cL_acts 1134 = .ok (.iload 7, 2) := by decide +kernel
theorem dL_acts_1136 : decode cL_acts 1136 = .ok (.imul, 1) := by decide +kernel
theorem dL_acts_1137 : decode cL_acts 1137 = .ok (.iconst 2, 1) := by decide +kernel
theorem dL_acts_1138 : decode cL_acts 1138 = .ok (.iadd, 1) := by decide +kernel
theorem dL_acts_1139 : decode cL_acts 1139 = .ok (.iaload, 1) := by decide +kernel
theorem dL_acts_1140 : decode cL_acts 1140 = .ok (.invokestatic 18, 3) := by decide +kernel
theorem dL_acts_1143 : decode cL_acts 1143 = .ok (.istore 18, 2) := by decide +kernel
theorem dL_acts_1145 : decode cL_acts 1145 = .ok (.iload 18, 2) := by decide +kernel
theorem dL_acts_1147 : decode cL_acts 1147 = .ok (.iconst 1, 1) := by decide +kernel
theorem dL_acts_1148 : decode cL_acts 1148 = .ok (.if_icmp .ge 21, 3) := by decide +kernel
theorem dL_acts_1151 : decode cL_acts 1151 = .ok (.aload_n 0, 1) := by decide +kernel
theorem dL_acts_1152 : decode cL_acts 1152 = .ok (.iload 7, 2) := by decide +kernel
theorem dL_acts_1154 : decode cL_acts 1154 = .ok (.iconst 5, 1) := by decide +kernel
theorem dL_acts_1155 : decode cL_acts 1155 = .ok (.invokestatic 104, 3) := by decide +kernel
theorem dL_acts_1158 : decode cL_acts 1158 = .ok (.ldc 77, 2) := by decide +kernel
theorem dL_acts_1160 : decode cL_acts 1160 = .ok (.if_icmp .ne 7, 3) := by decide +kernel
theorem dL_acts_1163 : decode cL_acts 1163 = .ok (.iconst 1, 1) := by decide +kernel
theorem dL_acts_1164 : decode cL_acts 1164 = .ok (.goto 4, 3) := by decide +kernel
theorem dL_acts_1167 : decode cL_acts 1167 = .ok (.iconst 0, 1) := by decide +kernel
theorem dL_acts_1168 : decode cL_acts 1168 = .ok (.ireturn, 1) := by decide +kernel
theorem dL_acts_1169 : decode cL_acts 1169 = .ok (.aload_n 2, 1) := by decide +kernel
theorem dL_acts_1170 : decode cL_acts 1170 = .ok (.iconst 3, 1) := by decide +kernel
theorem dL_acts_1171 : decode cL_acts 1171 = .ok (.iload 18, 2) := by decide +kernel
theorem dL_acts_1173 : decode cL_acts 1173 = .ok (.imul, 1) := by decide +kernel
theorem dL_acts_1174 : decode cL_acts 1174 = .ok (.iconst 1, 1) := by decide +kernel
theorem dL_acts_1175 : decode cL_acts 1175 = .ok (.iadd, 1) := by decide +kernel
theorem dL_acts_1176 : decode cL_acts 1176 = .ok (.iaload, 1) := by decide +kernel
theorem dL_acts_1177 : decode cL_acts 1177 = .ok (.istore 19, 2) := by decide +kernel
theorem dL_acts_1179 : decode cL_acts 1179 = .ok (.aload_n 2, 1) := by decide +kernel
theorem dL_acts_1180 : decode cL_acts 1180 = .ok (.iconst 3, 1) := by decide +kernel
theorem dL_acts_1181 : decode cL_acts 1181 = .ok (.iload 18, 2) := by decide +kernel
theorem dL_acts_1183 : decode cL_acts 1183 = .ok (.imul, 1) := by decide +kernel
theorem dL_acts_1184 : decode cL_acts 1184 = .ok (.iconst 1, 1) := by decide +kernel
theorem dL_acts_1185 : decode cL_acts 1185 = .ok (.iadd, 1) := by decide +kernel
theorem dL_acts_1186 : decode cL_acts 1186 = .ok (.iconst 1, 1) := by decide +kernel
theorem dL_acts_1187 : decode cL_acts 1187 = .ok (.iload 6, 2) := by decide +kernel
theorem dL_acts_1189 : decode cL_acts 1189 = .ok (.iconst 5, 1) := by decide +kernel
theorem dL_acts_1190 : decode cL_acts 1190 = .ok (.idiv, 1) := by decide +kernel
theorem dL_acts_1191 : decode cL_acts 1191 = .ok (.iload 6, 2) := by decide +kernel
theorem dL_acts_1193 : decode cL_acts 1193 = .ok (.iconst 2, 1) := by decide +kernel
theorem dL_acts_1194 : decode cL_acts 1194 = .ok (.irem, 1) := by decide +kernel
theorem dL_acts_1195 : decode cL_acts 1195 = .ok (.ifCond .ne 7, 3) := by decide +kernel
theorem dL_acts_1198 : decode cL_acts 1198 = .ok (.iconst 5, 1) := by decide +kernel
theorem dL_acts_1199 : decode cL_acts 1199 = .ok (.goto 6, 3) := by decide +kernel
theorem dL_acts_1202 : decode cL_acts 1202 = .ok (.sipush 1000, 3) := by decide +kernel
theorem dL_acts_1205 : decode cL_acts 1205 = .ok (.irem, 1) := by decide +kernel
theorem dL_acts_1206 : decode cL_acts 1206 = .ok (.iadd, 1) := by decide +kernel
theorem dL_acts_1207 : decode cL_acts 1207 = .ok (.iastore, 1) := by decide +kernel
theorem dL_acts_1208 : decode cL_acts 1208 = .ok (.aload_n 0, 1) := by decide +kernel
theorem dL_acts_1209 : decode cL_acts 1209 = .ok (.iload 7, 2) := by decide +kernel
theorem dL_acts_1211 : decode cL_acts 1211 = .ok (.aload_n 2, 1) := by decide +kernel
theorem dL_acts_1212 : decode cL_acts 1212 = .ok (.iconst 3, 1) := by decide +kernel
theorem dL_acts_1213 : decode cL_acts 1213 = .ok (.iload 18, 2) := by decide +kernel
theorem dL_acts_1215 : decode cL_acts 1215 = .ok (.imul, 1) := by decide +kernel
theorem dL_acts_1216 : decode cL_acts 1216 = .ok (.iconst 1, 1) := by decide +kernel
theorem dL_acts_1217 : decode cL_acts 1217 = .ok (.iadd, 1) := by decide +kernel
theorem dL_acts_1218 : decode cL_acts 1218 = .ok (.iaload, 1) := by decide +kernel
theorem dL_acts_1219 : decode cL_acts 1219 = .ok (.invokestatic 104, 3) := by decide +kernel
theorem dL_acts_1222 : decode cL_acts 1222 = .ok (.iload 19, 2) := by decide +kernel
theorem dL_acts_1224 : decode cL_acts 1224 = .ok (.if_icmp .ne 7, 3) := by decide +kernel
theorem dL_acts_1227 : decode cL_acts 1227 = .ok (.iconst 1, 1) := by decide +kernel
theorem dL_acts_1228 : decode cL_acts 1228 = .ok (.goto 4, 3) := by decide +kernel
theorem dL_acts_1231 : decode cL_acts 1231 = .ok (.iconst 0, 1) := by decide +kernel
theorem dL_acts_1232 : decode cL_acts 1232 = .ok (.ireturn, 1) := by decide +kernel
theorem dL_acts_1233 : decode cL_acts 1233 = .ok (.iload 9, 2) := by decide +kernel
theorem dL_acts_1235 : decode cL_acts 1235 = .ok (.ifCond .ne 8, 3) := by decide +kernel
theorem dL_acts_1238 : decode cL_acts 1238 = .ok (.ldc 77, 2) := by decide +kernel
theorem dL_acts_1240 : decode cL_acts 1240 = .ok (.goto 16, 3) := by decide +kernel
theorem dL_acts_1243 : decode cL_acts 1243 = .ok (.aload_n 3, 1) := by decide +kernel
theorem dL_acts_1244 : decode cL_acts 1244 = .ok (.bipush 20, 2) := by decide +kernel
theorem dL_acts_1246 : decode cL_acts 1246 = .ok (.aload_n 3, 1) := by decide +kernel
theorem dL_acts_1247 : decode cL_acts 1247 = .ok (.iconst 4, 1) := by decide +kernel
theorem dL_acts_1248 : decode cL_acts 1248 = .ok (.iload 7, 2) := by decide +kernel
theorem dL_acts_1250 : decode cL_acts 1250 = .ok (.imul, 1) := by decide +kernel
theorem dL_acts_1251 : decode cL_acts 1251 = .ok (.iconst 2, 1) := by decide +kernel
theorem dL_acts_1252 : decode cL_acts 1252 = .ok (.iadd, 1) := by decide +kernel
theorem dL_acts_1253 : decode cL_acts 1253 = .ok (.iaload, 1) := by decide +kernel
theorem dL_acts_1254 : decode cL_acts 1254 = .ok (.iadd, 1) := by decide +kernel
theorem dL_acts_1255 : decode cL_acts 1255 = .ok (.iaload, 1) := by decide +kernel
theorem dL_acts_1256 : decode cL_acts 1256 = .ok (.istore 20, 2) := by decide +kernel
theorem dL_acts_1258 : decode cL_acts 1258 = .ok (.iload 9, 2) := by decide +kernel
theorem dL_acts_1260 : decode cL_acts 1260 = .ok (.ifCond .le 18, 3) := by decide +kernel
theorem dL_acts_1263 : decode cL_acts 1263 = .ok (.aload_n 3, 1) := by decide +kernel
theorem dL_acts_1264 : decode cL_acts 1264 = .ok (.bipush 20, 2) := by decide +kernel
theorem dL_acts_1266 : decode cL_acts 1266 = .ok (.aload_n 3, 1) := by decide +kernel
theorem dL_acts_1267 : decode cL_acts 1267 = .ok (.iconst 4, 1) := by decide +kernel
theorem dL_acts_1268 : decode cL_acts 1268 = .ok (.iload 7, 2) := by decide +kernel
theorem dL_acts_1270 : decode cL_acts 1270 = .ok (.imul, 1) := by decide +kernel
theorem dL_acts_1271 : decode cL_acts 1271 = .ok (.iconst 2, 1) := by decide +kernel
theorem dL_acts_1272 : decode cL_acts 1272 = .ok (.iadd, 1) := by decide +kernel
theorem dL_acts_1273 : decode cL_acts 1273 = .ok (.iaload, 1) := by decide +kernel
theorem dL_acts_1274 : decode cL_acts 1274 = .ok (.iadd, 1) := by decide +kernel
theorem dL_acts_1275 : decode cL_acts 1275 = .ok (.iload 7, 2) := by decide +kernel
theorem dL_acts_1277 : decode cL_acts 1277 = .ok (.iastore, 1) := by decide +kernel
theorem dL_acts_1278 : decode cL_acts 1278 = .ok (.aload_n 0, 1) := by decide +kernel
theorem dL_acts_1279 : decode cL_acts 1279 = .ok (.iload 7, 2) := by decide +kernel
theorem dL_acts_1281 : decode cL_acts 1281 = .ok (.invokestatic 107, 3) := by decide +kernel
theorem dL_acts_1284 : decode cL_acts 1284 = .ok (.iload 20, 2) := by decide +kernel
theorem dL_acts_1286 : decode cL_acts 1286 = .ok (.if_icmp .ne 7, 3) := by decide +kernel
theorem dL_acts_1289 : decode cL_acts 1289 = .ok (.iconst 1, 1) := by decide +kernel
theorem dL_acts_1290 : decode cL_acts 1290 = .ok (.goto 4, 3) := by decide +kernel
theorem dL_acts_1293 : decode cL_acts 1293 = .ok (.iconst 0, 1) := by decide +kernel
theorem dL_acts_1294 : decode cL_acts 1294 = .ok (.ireturn, 1) := by decide +kernel
theorem a_add (C : Ok X cL_acts wsL_acts RL (some .boolean) 9 21) (E : En X 1 6 Po) (hcl : (xR X).cells = 1) (hsl : (xR X).slots = 6) (hL : LwS S w) (hP : 0 ≤ mu w 2 ∧ mu w 2 ≤ 4) (hw : 0 ≤ ww ∧ ww < 100000) {m3 : Int → Int → Mem}
    (hM : ∀ lw lh : Int, (1 ≤ lw ∧ lw ≤ 60) → (1 ≤ lh ∧ lh ≤ 60) → Ct (xG X) (xL X) yL_adds wsL_adds 8 1 6 [.ref o, .int (I32 lw), .int (I32 lh)] S n (up (up (up (up mu (w + 2) (4 * mu w 2) lw) (w + 2) (4 * mu w 2 + 1) lh) (w + 2) (4 * mu w 2 + 2) (-1)) w 2 (mu w 2 + 1)) la (Lq S (mu w 2) (m3 lw lh) la))
    (hm3 : ∀ lw lh : Int, m3 lw lh w 2 = mu w 2 + 1)
    (hPo : ∀ (lw lh : Int) (n1 : Nat), (1 ≤ lw ∧ lw ≤ 60) → (1 ≤ lh ∧ lh ≤ 60) → Po (some (.int (I32 1))) S n1 (m3 lw lh) la) :
    V X 35 [some (.ref o), some (.ref w), some (.ref (w + 1)), some (.ref (w + 2)), some (.ref (w + 3)), some (.int z), some (.int (I32 ww)), none, none, none, none, none, none, none, none, none, none, none, none, none, none] [] S n mu la 0 0 := by
  have hg := hL.1
  have hp := hL.2.2.1
  have two : ∀ lw lh : Int, (1 ≤ lw ∧ lw ≤ 60) → (1 ≤ lh ∧ lh ≤ 60) → V X 92 [some (.ref o), some (.ref w), some (.ref (w + 1)), some (.ref (w + 2)), some (.ref (w + 3)), some (.int z), some (.int (I32 ww)), none, none, none, none, none, none, none, none, none, none, none, none, none, none] [] S n (up (up mu (w + 2) (4 * mu w 2) lw) (w + 2) (4 * mu w 2 + 1) lh) la 0 0 := by
    intro lw lh h1 h2
    have hM := hM lw lh h1 h2
    have hPo := fun n1 => hPo lw lh n1 h1 h2
    have hm3 := hm3 lw lh
    have e1 : up (up mu (w + 2) (4 * mu w 2) lw) (w + 2) (4 * mu w 2 + 1) lh w 2 = mu w 2 := by rw [up_e, if_neg (by omega), up_e, if_neg (by omega)]
    have e2 : up (up (up mu (w + 2) (4 * mu w 2) lw) (w + 2) (4 * mu w 2 + 1) lh) (w + 2) (4 * mu w 2 + 2) (-1) w 2 = mu w 2 := by rw [up_e, if_neg (by omega), e1]
    have e3 : up (up (up (up mu (w + 2) (4 * mu w 2) lw) (w + 2) (4 * mu w 2 + 1) lh) (w + 2) (4 * mu w 2 + 2) (-1)) w 2 (mu w 2 + 1) w 2 = mu w 2 + 1 := up_s _ _ _ _
    have e4 : up (up (up (up mu (w + 2) (4 * mu w 2) lw) (w + 2) (4 * mu w 2 + 1) lh) (w + 2) (4 * mu w 2 + 2) (-1)) w 2 (mu w 2 + 1) (w + 2) (4 * (mu w 2 + 1) - 4) = lw := by
      rw [up_e, if_neg (by omega), up_e, if_neg (by omega), up_e, if_neg (by omega), up_e, if_pos ⟨rfl, by omega⟩]
    have e5 : up (up (up (up mu (w + 2) (4 * mu w 2) lw) (w + 2) (4 * mu w 2 + 1) lh) (w + 2) (4 * mu w 2 + 2) (-1)) w 2 (mu w 2 + 1) (w + 2) (4 * (mu w 2 + 1) - 3) = lh := by
      rw [up_e, if_neg (by omega), up_e, if_neg (by omega), up_e, if_pos ⟨rfl, by omega⟩]
    refine V_aload_n C dL_acts_92 rfl ?_
    refine V_iconst C dL_acts_93 ?_
    refine V_aload_n C dL_acts_94 rfl ?_
    refine V_iconst C dL_acts_95 ?_
    refine V_iald C dL_acts_96 hg (by first | assumption | decide) (by omega) ?_
    rw [e1]
    refine V_imul C dL_acts_97 ?_
    refine V_iconst C dL_acts_98 ?_
    refine V_iadd C dL_acts_99 ?_
    refine V_iconst C dL_acts_100 ?_
    refine V_iast C dL_acts_101 hp (by first | assumption | decide) (by omega) ?_
    refine V_aload_n C dL_acts_102 rfl ?_
    refine V_iconst C dL_acts_103 ?_
    refine V_dup2 C dL_acts_104 rfl rfl ?_
    refine V_iald C dL_acts_105 hg (by first | assumption | decide) (by omega) ?_
    rw [e2]
    refine V_iconst C dL_acts_106 ?_
    refine V_iadd C dL_acts_107 ?_
    refine V_iast C dL_acts_108 hg (by first | assumption | decide) (by omega) ?_
    generalize (up (up (up (up mu (w + 2) (4 * mu w 2) lw) (w + 2) (4 * mu w 2 + 1) lh) (w + 2) (4 * mu w 2 + 2) (-1)) w 2 (mu w 2 + 1)) = m at *
    refine V_aload_n C dL_acts_109 rfl ?_
    refine V_aload_n C dL_acts_110 rfl ?_
    refine V_iconst C dL_acts_111 ?_
    refine V_aload_n C dL_acts_112 rfl ?_
    refine V_iconst C dL_acts_113 ?_
    refine V_iald C dL_acts_114 hg (by first | assumption | decide) (by omega) ?_
    rw [e3]
    refine V_imul C dL_acts_115 ?_
    refine V_iconst C dL_acts_116 ?_
    refine V_isub C dL_acts_117 ?_
    refine V_iald C dL_acts_118 hp (by first | assumption | decide) (by omega) ?_
    rw [e4]
    refine V_aload_n C dL_acts_119 rfl ?_
    refine V_iconst C dL_acts_120 ?_
    refine V_aload_n C dL_acts_121 rfl ?_
    refine V_iconst C dL_acts_122 ?_
    refine V_iald C dL_acts_123 hg (by first | assumption | decide) (by omega) ?_
    rw [e3]
    refine V_imul C dL_acts_124 ?_
    refine V_iconst C dL_acts_125 ?_
    refine V_isub C dL_acts_126 ?_
    refine V_iald C dL_acts_127 hp (by first | assumption | decide) (by omega) ?_
    rw [e5]
    refine V_callSHQ (nA := 3) C dL_acts_128 hM gL_acts_L_adds rfl (by decide +kernel) rfl (by decide) (by decide) (Nat.le_of_ble_eq_true rfl) ⟨by omega, by omega⟩ rfl ?_
    intro n1
    refine V_aload_n C dL_acts_131 rfl ?_
    refine V_iconst C dL_acts_132 ?_
    refine V_iald C dL_acts_133 hg (by first | assumption | decide) (by omega) ?_
    rw [hm3]
    refine V_iconst C dL_acts_134 ?_
    refine V_isub C dL_acts_135 ?_
    rw [show mu w 2 + 1 - 1 = mu w 2 by omega]
    refine V_icmp_ne C 143 dL_acts_136 (by decide) (by omega) (by omega) (fun c => ?_) (fun c => ?_)
    · exact absurd rfl c
    refine V_iconst C dL_acts_139 ?_
    refine V_goto C 144 dL_acts_140 (by decide) ?_
    refine V_zreturn C E (by first | exact Or.inl rfl | exact Or.inr rfl | simp) dL_acts_144 (by omega) (by omega) ?_
    exact hPo n1
  have one : ∀ lw : Int, (1 ≤ lw ∧ lw ≤ 60) → V X 61 [some (.ref o), some (.ref w), some (.ref (w + 1)), some (.ref (w + 2)), some (.ref (w + 3)), some (.int z), some (.int (I32 ww)), none, none, none, none, none, none, none, none, none, none, none, none, none, none] [] S n (up mu (w + 2) (4 * mu w 2) lw) la 0 0 := by
    intro lw h1
    have e1 : up mu (w + 2) (4 * mu w 2) lw w 2 = mu w 2 := by rw [up_e, if_neg (by omega)]
    refine V_aload_n C dL_acts_61 rfl ?_
    refine V_iconst C dL_acts_62 ?_
    refine V_aload_n C dL_acts_63 rfl ?_
    refine V_iconst C dL_acts_64 ?_
    refine V_iald C dL_acts_65 hg (by first | assumption | decide) (by omega) ?_
    rw [e1]
    refine V_imul C dL_acts_66 ?_
    refine V_iconst C dL_acts_67 ?_
    refine V_iadd C dL_acts_68 ?_
    refine V_iconst C dL_acts_69 ?_
    refine V_iload C dL_acts_70 rfl ?_
    refine V_bipush C dL_acts_72 (by decide +kernel) ?_
    refine V_idiv C dL_acts_74 (by omega) (by omega) ?_
    refine V_iload C dL_acts_75 rfl ?_
    refine V_iconst C dL_acts_77 ?_
    refine V_irem C dL_acts_78 (by omega) (by omega) ?_
    refine V_if_ne C 87 dL_acts_79 (by decide) (by omega) (fun c => ?_) (fun c => ?_)
    · refine V_bipush C dL_acts_87 (by decide +kernel) ?_
      refine V_irem C dL_acts_89 (by omega) (by omega) ?_
      refine V_iadd C dL_acts_90 ?_
      refine V_iast C dL_acts_91 hp (by first | assumption | decide) (by omega) ?_
      exact two _ _ h1 ⟨by omega, by omega⟩
    · refine V_bipush C dL_acts_82 (by decide +kernel) ?_
      refine V_goto C 89 dL_acts_84 (by decide) ?_
      refine V_irem C dL_acts_89 (by omega) (by omega) ?_
      refine V_iadd C dL_acts_90 ?_
      refine V_iast C dL_acts_91 hp (by first | assumption | decide) (by omega) ?_
      exact two _ _ h1 ⟨by omega, by omega⟩
  refine V_aload_n C dL_acts_35 rfl ?_
  refine V_iconst C dL_acts_36 ?_
  refine V_aload_n C dL_acts_37 rfl ?_
  refine V_iconst C dL_acts_38 ?_
  refine V_iald C dL_acts_39 hg (by first | assumption | decide) (by omega) ?_
  refine V_imul C dL_acts_40 ?_
  refine V_iconst C dL_acts_41 ?_
  refine V_iload C dL_acts_42 rfl ?_
  refine V_iload C dL_acts_44 rfl ?_
  refine V_iconst C dL_acts_46 ?_
  refine V_irem C dL_acts_47 (by omega) (by omega) ?_
  refine V_if_ne C 56 dL_acts_48 (by decide) (by omega) (fun c => ?_) (fun c => ?_)
  · refine V_bipush C dL_acts_56 (by decide +kernel) ?_
    refine V_irem C dL_acts_58 (by omega) (by omega) ?_
    refine V_iadd C dL_acts_59 ?_
    refine V_iast C dL_acts_60 hp (by first | assumption | decide) (by omega) ?_
    exact one _ ⟨by omega, by omega⟩
  · refine V_bipush C dL_acts_51 (by decide +kernel) ?_
    refine V_goto C 58 dL_acts_53 (by decide) ?_
    refine V_irem C dL_acts_58 (by omega) (by omega) ?_
    refine V_iadd C dL_acts_59 ?_
    refine V_iast C dL_acts_60 hp (by first | assumption | decide) (by omega) ?_
    exact one _ ⟨by omega, by omega⟩
theorem a_0 (C : Ok X cL_acts wsL_acts RL (some .boolean) 9 21) (E : En X 1 6 Po) (hcl : (xR X).cells = 1) (hsl : (xR X).slots = 6) (hL : LwS S w) (h0 : 20 ≤ mu w 0 ∧ mu w 0 ≤ 400) (h1 : 20 ≤ mu w 1 ∧ mu w 1 ≤ 400) (hw : 0 ≤ ww ∧ ww < 100000) {m3 : Int → Int → Mem}
    (hM : ∀ lw lh : Int, (20 ≤ lw ∧ lw ≤ 400) → (20 ≤ lh ∧ lh ≤ 400) → Ct (xG X) (xL X) yL_sizes wsL_sizes 8 1 6 [.ref o, .int (I32 lw), .int (I32 lh)] S n (up (up mu w 0 lw) w 1 lh) la (Lq S (1000 * mu w 0 + mu w 1) (m3 lw lh) la))
    (hPo : ∀ (lw lh : Int) (n1 : Nat), (20 ≤ lw ∧ lw ≤ 400) → (20 ≤ lh ∧ lh ≤ 400) → Po (some (.int (I32 1))) S n1 (m3 lw lh) la) :
    V X 264 [some (.ref o), some (.ref w), some (.ref (w + 1)), some (.ref (w + 2)), some (.ref (w + 3)), some (.int z), some (.int (I32 ww)), some (.int (I32 a)), some (.int (I32 b)), some (.int (I32 was)), none, none, none, none, none, none, none, none, none, none, none] [] S n mu la 0 0 := by
  have hg := hL.1
  have two : ∀ lw lh : Int, (20 ≤ lw ∧ lw ≤ 400) → (20 ≤ lh ∧ lh ≤ 400) → V X 327 [some (.ref o), some (.ref w), some (.ref (w + 1)), some (.ref (w + 2)), some (.ref (w + 3)), some (.int z), some (.int (I32 ww)), some (.int (I32 a)), some (.int (I32 b)), some (.int (I32 was)), some (.int (I32 (1000 * mu w 0 + mu w 1))), none, none, none, none, none, none, none, none, none, none] [] S n (up (up mu w 0 lw) w 1 lh) la 0 0 := by
    intro lw lh q1 q2
    have hM := hM lw lh q1 q2
    have e0 : up (up mu w 0 lw) w 1 lh w 0 = lw := by rw [up_e, if_neg (by omega), up_s]
    have e1 : up (up mu w 0 lw) w 1 lh w 1 = lh := up_s _ _ _ _
    generalize up (up mu w 0 lw) w 1 lh = m at *
    refine V_aload_n C dL_acts_327 rfl ?_
    refine V_aload_n C dL_acts_328 rfl ?_
    refine V_iconst C dL_acts_329 ?_
    refine V_iald C dL_acts_330 hg (by first | assumption | decide) (by omega) ?_
    rw [e0]
    refine V_aload_n C dL_acts_331 rfl ?_
    refine V_iconst C dL_acts_332 ?_
    refine V_iald C dL_acts_333 hg (by first | assumption | decide) (by omega) ?_
    rw [e1]
    refine V_callSHQ (nA := 3) C dL_acts_334 hM gL_acts_L_sizes rfl (by decide +kernel) rfl (by decide) (by decide) (Nat.le_of_ble_eq_true rfl) ⟨by omega, by omega⟩ rfl ?_
    intro n1
    refine V_iload C dL_acts_337 rfl ?_
    refine V_icmp_ne C 346 dL_acts_339 (by decide) (by omega) (by omega) (fun c => ?_) (fun c => ?_)
    · exact absurd rfl c
    refine V_iconst C dL_acts_342 ?_
    refine V_goto C 347 dL_acts_343 (by decide) ?_
    refine V_zreturn C E (by first | exact Or.inl rfl | exact Or.inr rfl | simp) dL_acts_347 (by omega) (by omega) ?_
    exact hPo lw lh n1 q1 q2
  have one : ∀ lw : Int, (20 ≤ lw ∧ lw ≤ 400) → V X 301 [some (.ref o), some (.ref w), some (.ref (w + 1)), some (.ref (w + 2)), some (.ref (w + 3)), some (.int z), some (.int (I32 ww)), some (.int (I32 a)), some (.int (I32 b)), some (.int (I32 was)), some (.int (I32 (1000 * mu w 0 + mu w 1))), none, none, none, none, none, none, none, none, none, none] [] S n (up mu w 0 lw) la 0 0 := by
    intro lw q1
    refine V_aload_n C dL_acts_301 rfl ?_
    refine V_iconst C dL_acts_302 ?_
    refine V_bipush C dL_acts_303 (by decide +kernel) ?_
    refine V_iload C dL_acts_305 rfl ?_
    refine V_iconst C dL_acts_307 ?_
    refine V_idiv C dL_acts_308 (by omega) (by omega) ?_
    refine V_iload C dL_acts_309 rfl ?_
    refine V_iconst C dL_acts_311 ?_
    refine V_irem C dL_acts_312 (by omega) (by omega) ?_
    refine V_if_ne C 321 dL_acts_313 (by decide) (by omega) (fun c => ?_) (fun c => ?_)
    · refine V_sipush C dL_acts_321 (by decide +kernel) ?_
      refine V_irem C dL_acts_324 (by omega) (by omega) ?_
      refine V_iadd C dL_acts_325 ?_
      refine V_iast C dL_acts_326 hg (by first | assumption | decide) (by omega) ?_
      exact two _ _ q1 ⟨by omega, by omega⟩
    · refine V_bipush C dL_acts_316 (by decide +kernel) ?_
      refine V_goto C 324 dL_acts_318 (by decide) ?_
      refine V_irem C dL_acts_324 (by omega) (by omega) ?_
      refine V_iadd C dL_acts_325 ?_
      refine V_iast C dL_acts_326 hg (by first | assumption | decide) (by omega) ?_
      exact two _ _ q1 ⟨by omega, by omega⟩
  refine V_sipush C dL_acts_264 (by decide +kernel) ?_
  refine V_aload_n C dL_acts_267 rfl ?_
  refine V_iconst C dL_acts_268 ?_
  refine V_iald C dL_acts_269 hg (by first | assumption | decide) (by omega) ?_
  refine V_imul C dL_acts_270 ?_
  refine V_aload_n C dL_acts_271 rfl ?_
  refine V_iconst C dL_acts_272 ?_
  refine V_iald C dL_acts_273 hg (by first | assumption | decide) (by omega) ?_
  refine V_iadd C dL_acts_274 ?_
  refine V_istore C dL_acts_275 rfl (by decide) ?_
  refine V_aload_n C dL_acts_277 rfl ?_
  refine V_iconst C dL_acts_278 ?_
  refine V_bipush C dL_acts_279 (by decide +kernel) ?_
  refine V_iload C dL_acts_281 rfl ?_
  refine V_iload C dL_acts_283 rfl ?_
  refine V_iconst C dL_acts_285 ?_
  refine V_irem C dL_acts_286 (by omega) (by omega) ?_
  refine V_if_ne C 295 dL_acts_287 (by decide) (by omega) (fun c => ?_) (fun c => ?_)
  · refine V_sipush C dL_acts_295 (by decide +kernel) ?_
    refine V_irem C dL_acts_298 (by omega) (by omega) ?_
    refine V_iadd C dL_acts_299 ?_
    refine V_iast C dL_acts_300 hg (by first | assumption | decide) (by omega) ?_
    exact one _ ⟨by omega, by omega⟩
  · refine V_bipush C dL_acts_290 (by decide +kernel) ?_
    refine V_goto C 298 dL_acts_292 (by decide) ?_
    refine V_irem C dL_acts_298 (by omega) (by omega) ?_
    refine V_iadd C dL_acts_299 ?_
    refine V_iast C dL_acts_300 hg (by first | assumption | decide) (by omega) ?_
    exact one _ ⟨by omega, by omega⟩
theorem a_1 (C : Ok X cL_acts wsL_acts RL (some .boolean) 9 21) (E : En X 1 6 Po) (hcl : (xR X).cells = 1) (hsl : (xR X).slots = 6) (hL : LwS S w) (ha : 0 ≤ a ∧ a < 5) (h0 : 0 ≤ mu (w + 2) (4 * a) ∧ mu (w + 2) (4 * a) ≤ 60) (h1 : 0 ≤ mu (w + 2) (4 * a + 1) ∧ mu (w + 2) (4 * a + 1) ≤ 60) (hw : 0 ≤ ww ∧ ww < 100000) {m3 : Mem}
    (hM : Ct (xG X) (xL X) yL_leasts wsL_leasts 8 1 6 [.ref o, .int (I32 a), .int (I32 (1 + ww / 5 % 60)), .int (I32 (1 + ww / 11 % 60))] S n (up (up mu (w + 2) (4 * a) (1 + ww / 5 % 60)) (w + 2) (4 * a + 1) (1 + ww / 11 % 60)) la (Lq S (1000 * mu (w + 2) (4 * a) + mu (w + 2) (4 * a + 1)) m3 la))
    (hPo : ∀ n1 : Nat, Po (some (.int (I32 1))) S n1 m3 la) :
    V X 348 [some (.ref o), some (.ref w), some (.ref (w + 1)), some (.ref (w + 2)), some (.ref (w + 3)), some (.int z), some (.int (I32 ww)), some (.int (I32 a)), some (.int (I32 b)), some (.int (I32 was)), none, none, none, none, none, none, none, none, none, none, none] [] S n mu la 0 0 := by
  have hp := hL.2.2.1
  have e0 : up (up mu (w + 2) (4 * a) (1 + ww / 5 % 60)) (w + 2) (4 * a + 1) (1 + ww / 11 % 60) (w + 2) (4 * a) = 1 + ww / 5 % 60 := by rw [up_e, if_neg (by omega), up_s]
  have e1 : up (up mu (w + 2) (4 * a) (1 + ww / 5 % 60)) (w + 2) (4 * a + 1) (1 + ww / 11 % 60) (w + 2) (4 * a + 1) = 1 + ww / 11 % 60 := up_s _ _ _ _
  refine V_sipush C dL_acts_348 (by decide +kernel) ?_
  refine V_aload_n C dL_acts_351 rfl ?_
  refine V_iconst C dL_acts_352 ?_
  refine V_iload C dL_acts_353 rfl ?_
  refine V_imul C dL_acts_355 ?_
  refine V_iald C dL_acts_356 hp (by first | assumption | decide) (by omega) ?_
  refine V_imul C dL_acts_357 ?_
  refine V_aload_n C dL_acts_358 rfl ?_
  refine V_iconst C dL_acts_359 ?_
  refine V_iload C dL_acts_360 rfl ?_
  refine V_imul C dL_acts_362 ?_
  refine V_iconst C dL_acts_363 ?_
  refine V_iadd C dL_acts_364 ?_
  refine V_iald C dL_acts_365 hp (by first | assumption | decide) (by omega) ?_
  refine V_iadd C dL_acts_366 ?_
  refine V_istore C dL_acts_367 rfl (by decide) ?_
  refine V_aload_n C dL_acts_369 rfl ?_
  refine V_iconst C dL_acts_370 ?_
  refine V_iload C dL_acts_371 rfl ?_
  refine V_imul C dL_acts_373 ?_
  refine V_iconst C dL_acts_374 ?_
  refine V_iload C dL_acts_375 rfl ?_
  refine V_iconst C dL_acts_377 ?_
  refine V_idiv C dL_acts_378 (by omega) (by omega) ?_
  refine V_bipush C dL_acts_379 (by decide +kernel) ?_
  refine V_irem C dL_acts_381 (by omega) (by omega) ?_
  refine V_iadd C dL_acts_382 ?_
  refine V_iast C dL_acts_383 hp (by first | assumption | decide) (by omega) ?_
  refine V_aload_n C dL_acts_384 rfl ?_
  refine V_iconst C dL_acts_385 ?_
  refine V_iload C dL_acts_386 rfl ?_
  refine V_imul C dL_acts_388 ?_
  refine V_iconst C dL_acts_389 ?_
  refine V_iadd C dL_acts_390 ?_
  refine V_iconst C dL_acts_391 ?_
  refine V_iload C dL_acts_392 rfl ?_
  refine V_bipush C dL_acts_394 (by decide +kernel) ?_
  refine V_idiv C dL_acts_396 (by omega) (by omega) ?_
  refine V_bipush C dL_acts_397 (by decide +kernel) ?_
  refine V_irem C dL_acts_399 (by omega) (by omega) ?_
  refine V_iadd C dL_acts_400 ?_
  refine V_iast C dL_acts_401 hp (by first | assumption | decide) (by omega) ?_
  generalize up (up mu (w + 2) (4 * a) (1 + ww / 5 % 60)) (w + 2) (4 * a + 1) (1 + ww / 11 % 60) = m at *
  refine V_aload_n C dL_acts_402 rfl ?_
  refine V_iload C dL_acts_403 rfl ?_
  refine V_aload_n C dL_acts_405 rfl ?_
  refine V_iconst C dL_acts_406 ?_
  refine V_iload C dL_acts_407 rfl ?_
  refine V_imul C dL_acts_409 ?_
  refine V_iald C dL_acts_410 hp (by first | assumption | decide) (by omega) ?_
  rw [e0]
  refine V_aload_n C dL_acts_411 rfl ?_
  refine V_iconst C dL_acts_412 ?_
  refine V_iload C dL_acts_413 rfl ?_
  refine V_imul C dL_acts_415 ?_
  refine V_iconst C dL_acts_416 ?_
  refine V_iadd C dL_acts_417 ?_
  refine V_iald C dL_acts_418 hp (by first | assumption | decide) (by omega) ?_
  rw [e1]
  refine V_callSHQ (nA := 4) C dL_acts_419 hM gL_acts_L_leasts rfl (by decide +kernel) rfl (by decide) (by decide) (Nat.le_of_ble_eq_true rfl) ⟨by omega, by omega⟩ rfl ?_
  intro n1
  refine V_iload C dL_acts_422 rfl ?_
  refine V_icmp_ne C 431 dL_acts_424 (by decide) (by omega) (by omega) (fun c => ?_) (fun c => ?_)
  · exact absurd rfl c
  refine V_iconst C dL_acts_427 ?_
  refine V_goto C 432 dL_acts_428 (by decide) ?_
  refine V_zreturn C E (by first | exact Or.inl rfl | exact Or.inr rfl | simp) dL_acts_432 (by omega) (by omega) ?_
  exact hPo n1
end LA

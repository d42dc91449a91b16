set_option maxRecDepth 20000 in
theorem ggL_law_X8_init : GoodIn wsL_law wsX8_init := goodIn_r _ [8, 9, 10, 11, 12, 13, 14, 15, 16, 17, 18, 19, 20, 21, 22, 23, 24, 25, 26, 27, 28, 29, 30, 31, 32, 33, 34, 35, 36, 37, 38, 39, 40, 41, 42, 43, 44, 45, 46, 47, 48, 49, 50, 51, 52, 53, 54, 55, 56, 57, 58, 59, 60, 61, 62, 63, 64, 65, 66, 67, 68, 69, 70, 71, 72, 73, 74, 75, 76, 77, 78, 79, 80, 81, 82, 83, 84, 85, 86, 87, 656, 657, 658, 659, 639, 640, 641, 642, 643, 660, 661, 662, 663, 664, 665, 666, 667, 668, 669, 670, 671, 672, 673, 674, 675, 676, 677, 678, 679, 680, 681, 682, 683, 684] (by decide +kernel) (by decide +kernel)
set_option maxRecDepth 20000 in
theorem gL_law_X8_init : GoodIn wsL_law (wsX8_init) := ggL_law_X8_init
set_option maxRecDepth 20000 in
theorem ggL_law_X9_init : GoodIn wsL_law wsX9_init := goodIn_r _ [90, 91, 10, 11, 53, 92, 93, 94, 95, 96, 97, 98, 99, 644, 645, 646, 647, 648, 649, 650, 651, 652, 653, 654, 655] (by decide +kernel) (by decide +kernel)
set_option maxRecDepth 20000 in
theorem gL_law_X9_init : GoodIn wsL_law (wsX9_init) := ggL_law_X9_init
set_option maxRecDepth 20000 in
theorem ggL_law_X8_rule : GoodIn wsL_law wsX8_rule := goodIn_r _ [103, 15, 104, 105, 20, 106, 107, 108, 34, 109, 110, 54, 111, 112, 113, 114, 115, 116, 2, 117, 118, 119, 120, 30, 121, 47, 48, 49, 122, 123, 124, 125, 126, 127, 128, 19, 129, 130, 72, 70, 131, 639, 640, 641, 642, 643, 656, 657, 658, 659, 672, 673, 669, 670, 671, 660, 661, 662, 663, 664, 665, 674, 675] (by decide +kernel) (by decide +kernel)
set_option maxRecDepth 20000 in
theorem gL_law_X8_rule : GoodIn wsL_law (wsV RL 13 RX8 yX8_rule wsX8_rule) := goodIn_app (goodIn_of _ (by decide +kernel)) ggL_law_X8_rule
set_option maxRecDepth 20000 in
theorem ggL_law_X9_rule : GoodIn wsL_law wsX9_rule := goodIn_r _ [135, 92, 136, 137, 5, 138, 139, 140, 141, 142, 143, 144, 145, 146, 644, 645, 646, 647, 648, 649, 650, 651, 652, 653, 654, 655] (by decide +kernel) (by decide +kernel)
set_option maxRecDepth 20000 in
theorem gL_law_X9_rule : GoodIn wsL_law (wsV RL 17 RX9 yX9_rule wsX9_rule) := goodIn_app (goodIn_of _ (by decide +kernel)) ggL_law_X9_rule
set_option maxRecDepth 20000 in
theorem ggL_law_X8_add : GoodIn wsL_law wsX8_add := goodIn_r _ [150, 15, 105, 104, 151, 20, 152, 153, 154, 30, 155, 47, 116, 2, 117, 156, 157, 158, 159, 48, 160, 161, 126, 127, 128, 19, 129, 130, 72, 70, 131, 162, 163, 164, 34, 165, 110, 54, 639, 640, 641, 642, 643, 656, 657, 658, 659, 672, 673, 669, 670, 671, 660, 661, 662, 663, 664, 665, 674, 675] (by decide +kernel) (by decide +kernel)
set_option maxRecDepth 20000 in
theorem gL_law_X8_add : GoodIn wsL_law (wsV RL 18 RX8 yX8_add wsX8_add) := goodIn_app (goodIn_of _ (by decide +kernel)) ggL_law_X8_add
set_option maxRecDepth 20000 in
theorem ggL_law_X9_add : GoodIn wsL_law wsX9_add := goodIn_r _ [169, 92, 170, 171, 172, 5, 173, 136, 137, 138, 143, 144, 145, 146, 644, 645, 646, 647, 648, 649, 650, 651, 652, 653, 654, 655] (by decide +kernel) (by decide +kernel)
set_option maxRecDepth 20000 in
theorem gL_law_X9_add : GoodIn wsL_law (wsV RL 22 RX9 yX9_add wsX9_add) := goodIn_app (goodIn_of _ (by decide +kernel)) ggL_law_X9_add
set_option maxRecDepth 20000 in
theorem ggL_law_X8_clear : GoodIn wsL_law wsX8_clear := goodIn_r _ [177, 15, 104, 151, 20, 126, 127, 128, 19, 129, 130, 72, 70, 131, 639, 640, 641, 642, 643, 656, 657, 658, 659, 672, 673, 660, 661, 662, 663, 664, 665, 674, 675] (by decide +kernel) (by decide +kernel)
set_option maxRecDepth 20000 in
theorem gL_law_X8_clear : GoodIn wsL_law (wsV RL 23 RX8 yX8_clear wsX8_clear) := goodIn_app (goodIn_of _ (by decide +kernel)) ggL_law_X8_clear
set_option maxRecDepth 20000 in
theorem ggL_law_X9_clear : GoodIn wsL_law wsX9_clear := goodIn_r _ [181, 92, 143, 144, 145, 5, 146, 644, 645, 646, 647, 648, 649, 650, 651, 652, 653, 654, 655] (by decide +kernel) (by decide +kernel)
set_option maxRecDepth 20000 in
theorem gL_law_X9_clear : GoodIn wsL_law (wsV RL 27 RX9 yX9_clear wsX9_clear) := goodIn_app (goodIn_of _ (by decide +kernel)) ggL_law_X9_clear
set_option maxRecDepth 20000 in
theorem ggL_law_X8_sample : GoodIn wsL_law wsX8_sample := goodIn_r _ [185, 15, 104, 186, 187, 188, 34, 189, 110, 54, 639, 640, 641, 642, 643, 656, 657, 658, 659, 672, 673] (by decide +kernel) (by decide +kernel)
set_option maxRecDepth 20000 in
theorem gL_law_X8_sample : GoodIn wsL_law (wsV RL 28 RX8 yX8_sample wsX8_sample) := goodIn_app (goodIn_of _ (by decide +kernel)) ggL_law_X8_sample
set_option maxRecDepth 20000 in
theorem ggL_law_X9_sample : GoodIn wsL_law wsX9_sample := goodIn_r _ [193, 92, 143, 144, 145, 5, 146, 136, 137, 138, 644, 645, 646, 647, 648, 649, 650, 651, 652, 653, 654, 655] (by decide +kernel) (by decide +kernel)
set_option maxRecDepth 20000 in
theorem gL_law_X9_sample : GoodIn wsL_law (wsV RL 31 RX9 yX9_sample wsX9_sample) := goodIn_app (goodIn_of _ (by decide +kernel)) ggL_law_X9_sample
set_option maxRecDepth 20000 in
theorem ggL_law_X8_ahead : GoodIn wsL_law wsX8_ahead := goodIn_r _ [197, 15, 104, 105, 198, 199, 2, 200, 201, 202, 203, 34, 204, 110, 205, 206, 207, 30, 208, 48, 49, 209, 210, 211, 212, 213, 214, 113, 215, 216, 112, 114, 115, 116, 117, 186, 187, 188, 189, 54, 152, 153, 154, 155, 47, 217, 218, 219, 220, 221, 222, 639, 640, 641, 642, 643, 656, 657, 658, 659, 672, 673, 669, 670, 671] (by decide +kernel) (by decide +kernel)
set_option maxRecDepth 20000 in
theorem gL_law_X8_ahead : GoodIn wsL_law (wsV RL 32 RX8 yX8_ahead wsX8_ahead) := goodIn_app (goodIn_of _ (by decide +kernel)) ggL_law_X8_ahead
set_option maxRecDepth 20000 in
theorem ggL_law_X9_ahead : GoodIn wsL_law wsX9_ahead := goodIn_r _ [226, 96, 136, 137, 5, 138, 143, 144, 145, 146, 92, 227, 228, 229, 230, 231, 232, 233, 234, 235, 236, 237, 238, 239, 240, 241, 242, 170, 171, 172, 173, 243, 244, 245, 246, 247, 248, 249, 250, 644, 645, 646, 647, 648, 649, 650, 651, 652, 653, 654, 655] (by decide +kernel) (by decide +kernel)
set_option maxRecDepth 20000 in
theorem gL_law_X9_ahead : GoodIn wsL_law (wsV RL 36 RX9 yX9_ahead wsX9_ahead) := goodIn_app (goodIn_of _ (by decide +kernel)) ggL_law_X9_ahead
set_option maxRecDepth 20000 in
theorem ggL_law_X8_cost : GoodIn wsL_law wsX8_cost := goodIn_r _ [254, 20, 15, 105, 104, 198, 199, 2, 200, 255, 256, 257, 258, 259, 260, 261, 262, 151, 263, 264, 265, 266, 267, 160, 161, 268, 269, 270, 19, 271, 76, 272, 273, 274, 75, 275, 276, 277, 278, 279, 280, 281, 282, 283, 80, 284, 285, 286, 30, 287, 48, 288, 214, 113, 215, 289, 206, 207, 208, 49, 290, 187, 188, 34, 189, 110, 54, 210, 211, 212, 213, 216, 112, 114, 115, 116, 117, 186, 205, 291, 153, 154, 155, 47, 218, 219, 220, 221, 222, 292, 293, 294, 295, 296, 297, 298, 299, 300, 301, 639, 640, 641, 642, 643, 656, 657, 658, 659, 672, 673, 669, 670, 671, 660, 661, 662, 663, 664, 665, 679, 680, 681, 682, 683, 684] (by decide +kernel) (by decide +kernel)
set_option maxRecDepth 20000 in
theorem gL_law_X8_cost : GoodIn wsL_law (wsV RL 37 RX8 yX8_cost wsX8_cost) := goodIn_app (goodIn_of _ (by decide +kernel)) ggL_law_X8_cost
set_option maxRecDepth 20000 in
theorem ggL_law_X9_cost : GoodIn wsL_law wsX9_cost := goodIn_r _ [305, 136, 137, 5, 138, 306, 307, 308, 309, 310, 311, 312, 313, 92, 143, 144, 145, 146, 235, 236, 237, 238, 96, 314, 315, 316, 317, 318, 319, 320, 321, 322, 323, 324, 325, 326, 327, 328, 329, 330, 331, 332, 227, 228, 229, 230, 231, 232, 233, 234, 239, 240, 241, 242, 170, 171, 172, 173, 243, 244, 245, 246, 247, 248, 249, 250, 333, 334, 335, 336, 644, 645, 646, 647, 648, 649, 650, 651, 652, 653, 654, 655] (by decide +kernel) (by decide +kernel)
set_option maxRecDepth 20000 in
theorem gL_law_X9_cost : GoodIn wsL_law (wsV RL 40 RX9 yX9_cost wsX9_cost) := goodIn_app (goodIn_of _ (by decide +kernel)) ggL_law_X9_cost
set_option maxRecDepth 20000 in
theorem ggL_law_X8_block : GoodIn wsL_law wsX8_block := goodIn_r _ [340, 20, 15, 105, 104, 341, 342, 343, 151, 263, 344, 255, 256, 257, 2, 258, 259, 260, 261, 262, 264, 265, 266, 267, 160, 161, 345, 346, 347, 19, 348, 349, 214, 113, 215, 130, 76, 68, 72, 69, 70, 131, 350, 351, 352, 353, 272, 273, 274, 75, 275, 276, 277, 278, 279, 280, 281, 282, 283, 80, 284, 285, 286, 30, 287, 48, 288, 289, 206, 207, 208, 49, 290, 187, 188, 34, 189, 110, 54, 210, 211, 212, 213, 216, 112, 114, 115, 116, 117, 186, 205, 291, 153, 154, 155, 47, 218, 219, 220, 221, 222, 292, 293, 294, 295, 296, 297, 298, 299, 300, 301, 354, 355, 356, 357, 358, 359, 360, 38, 361, 362, 363, 364, 365, 366, 58, 367, 368, 369, 370, 371, 372, 639, 640, 641, 642, 643, 656, 657, 658, 659, 660, 661, 662, 663, 664, 665, 672, 673, 669, 670, 671, 674, 675, 679, 680, 681, 682, 683, 684] (by decide +kernel) (by decide +kernel)
set_option maxRecDepth 20000 in
theorem gL_law_X8_block : GoodIn wsL_law (wsV RL 41 RX8 yX8_block wsX8_block) := goodIn_app (goodIn_of _ (by decide +kernel)) ggL_law_X8_block
set_option maxRecDepth 20000 in
theorem ggL_law_X9_block : GoodIn wsL_law wsX9_block := goodIn_r _ [376, 99, 98, 92, 136, 137, 5, 138, 306, 307, 308, 309, 310, 311, 312, 313, 143, 144, 145, 146, 377, 378, 379, 380, 381, 96, 235, 236, 237, 238, 382, 383, 384, 385, 314, 315, 316, 317, 318, 319, 320, 321, 322, 323, 324, 325, 326, 327, 328, 329, 330, 331, 332, 227, 228, 229, 230, 231, 232, 233, 234, 239, 240, 241, 242, 170, 171, 172, 173, 243, 244, 245, 246, 247, 248, 249, 250, 333, 334, 335, 336, 386, 387, 388, 389, 97, 390, 391, 392, 393, 644, 645, 646, 647, 648, 649, 650, 651, 652, 653, 654, 655] (by decide +kernel) (by decide +kernel)
set_option maxRecDepth 20000 in
theorem gL_law_X9_block : GoodIn wsL_law (wsV RL 44 RX9 yX9_block wsX9_block) := goodIn_app (goodIn_of _ (by decide +kernel)) ggL_law_X9_block
set_option maxRecDepth 20000 in
theorem ggL_law_X8_packed : GoodIn wsL_law wsX8_packed := goodIn_r _ [397, 20, 398, 399, 400, 401, 402, 2, 403, 15, 105, 104, 259, 260, 261, 262, 151, 263, 264, 265, 266, 267, 160, 161, 345, 346, 347, 19, 348, 349, 214, 113, 215, 130, 76, 68, 72, 69, 70, 131, 350, 351, 352, 353, 272, 273, 274, 75, 275, 276, 277, 278, 279, 280, 281, 282, 283, 80, 284, 285, 286, 30, 287, 48, 288, 289, 206, 207, 208, 49, 290, 187, 188, 34, 189, 110, 54, 210, 211, 212, 213, 216, 112, 114, 115, 116, 117, 186, 205, 291, 153, 154, 155, 47, 218, 219, 220, 221, 222, 292, 293, 294, 295, 296, 297, 298, 299, 300, 301, 354, 355, 356, 357, 358, 359, 360, 38, 361, 362, 363, 364, 365, 366, 58, 367, 368, 369, 370, 371, 404, 405, 406, 407, 639, 640, 641, 642, 643, 660, 661, 662, 663, 664, 665, 674, 675, 656, 657, 658, 659, 672, 673, 669, 670, 671, 679, 680, 681, 682, 683, 684] (by decide +kernel) (by decide +kernel)
set_option maxRecDepth 20000 in
theorem gL_law_X8_packed : GoodIn wsL_law (wsV RL 45 RX8 yX8_packed wsX8_packed) := goodIn_app (goodIn_of _ (by decide +kernel)) ggL_law_X8_packed
set_option maxRecDepth 20000 in
theorem ggL_law_X9_packed : GoodIn wsL_law wsX9_packed := goodIn_r _ [411, 381, 97, 377, 378, 379, 5, 380, 98, 99, 96, 92, 235, 236, 237, 238, 143, 144, 145, 146, 310, 311, 312, 313, 382, 383, 384, 385, 314, 315, 316, 317, 318, 319, 320, 321, 136, 137, 138, 322, 323, 324, 325, 326, 327, 328, 329, 330, 331, 332, 227, 228, 229, 230, 231, 232, 233, 234, 239, 240, 241, 242, 170, 171, 172, 173, 243, 244, 245, 246, 247, 248, 249, 250, 333, 334, 335, 336, 386, 387, 388, 389, 390, 391, 392, 393, 644, 645, 646, 647, 648, 649, 650, 651, 652, 653, 654, 655] (by decide +kernel) (by decide +kernel)
set_option maxRecDepth 20000 in
theorem gL_law_X9_packed : GoodIn wsL_law (wsV RL 48 RX9 yX9_packed wsX9_packed) := goodIn_app (goodIn_of _ (by decide +kernel)) ggL_law_X9_packed
set_option maxRecDepth 20000 in
theorem ggL_law_X8_lost : GoodIn wsL_law wsX8_lost := goodIn_r _ [415, 15, 105, 344, 104, 151, 213, 214, 113, 215, 263, 255, 256, 257, 2, 258, 259, 260, 261, 262, 264, 265, 266, 267, 160, 161, 416, 417, 418, 30, 419, 48, 49, 639, 640, 641, 642, 643, 656, 657, 658, 659, 669, 670, 671, 672, 673] (by decide +kernel) (by decide +kernel)
set_option maxRecDepth 20000 in
theorem gL_law_X8_lost : GoodIn wsL_law (wsV RL 49 RX8 yX8_lost wsX8_lost) := goodIn_app (goodIn_of _ (by decide +kernel)) ggL_law_X8_lost
set_option maxRecDepth 20000 in
theorem ggL_law_X9_lost : GoodIn wsL_law wsX9_lost := goodIn_r _ [423, 92, 306, 307, 308, 5, 309, 310, 311, 312, 313, 143, 144, 145, 146, 136, 137, 138, 231, 232, 233, 234, 330, 331, 332, 322, 323, 324, 325, 644, 645, 646, 647, 648, 649, 650, 651, 652, 653, 654, 655] (by decide +kernel) (by decide +kernel)
set_option maxRecDepth 20000 in
theorem gL_law_X9_lost : GoodIn wsL_law (wsV RL 52 RX9 yX9_lost wsX9_lost) := goodIn_app (goodIn_of _ (by decide +kernel)) ggL_law_X9_lost
set_option maxRecDepth 20000 in
theorem ggL_law_X8_tape : GoodIn wsL_law wsX8_tape := goodIn_r _ [427, 15, 428, 20, 398, 399, 400, 401, 402, 2, 403, 105, 104, 259, 260, 261, 262, 151, 263, 264, 265, 266, 267, 160, 161, 345, 346, 347, 19, 348, 349, 214, 113, 215, 130, 76, 68, 72, 69, 70, 131, 350, 351, 352, 353, 272, 273, 274, 75, 275, 276, 277, 278, 279, 280, 281, 282, 283, 80, 284, 285, 286, 30, 287, 48, 288, 289, 206, 207, 208, 49, 290, 187, 188, 34, 189, 110, 54, 210, 211, 212, 213, 216, 112, 114, 115, 116, 117, 186, 205, 291, 153, 154, 155, 47, 218, 219, 220, 221, 222, 292, 293, 294, 295, 296, 297, 298, 299, 300, 301, 354, 355, 356, 357, 358, 359, 360, 38, 361, 362, 363, 364, 365, 366, 58, 367, 368, 369, 370, 371, 429, 430, 431, 432, 433, 434, 435, 436, 639, 640, 641, 642, 643, 656, 657, 658, 659, 660, 661, 662, 663, 664, 665, 674, 675, 672, 673, 669, 670, 671, 679, 680, 681, 682, 683, 684] (by decide +kernel) (by decide +kernel)
set_option maxRecDepth 20000 in
theorem gL_law_X8_tape : GoodIn wsL_law (wsV RL 53 RX8 yX8_tape wsX8_tape) := goodIn_app (goodIn_of _ (by decide +kernel)) ggL_law_X8_tape
set_option maxRecDepth 20000 in
theorem ggL_law_X9_tape : GoodIn wsL_law wsX9_tape := goodIn_r _ [440, 381, 92, 97, 377, 378, 379, 5, 380, 98, 99, 96, 235, 236, 237, 238, 143, 144, 145, 146, 310, 311, 312, 313, 382, 383, 384, 385, 314, 315, 316, 317, 318, 319, 320, 321, 136, 137, 138, 322, 323, 324, 325, 326, 327, 328, 329, 330, 331, 332, 227, 228, 229, 230, 231, 232, 233, 234, 239, 240, 241, 242, 170, 171, 172, 173, 243, 244, 245, 246, 247, 248, 249, 250, 333, 334, 335, 336, 386, 387, 388, 389, 390, 391, 392, 393, 644, 645, 646, 647, 648, 649, 650, 651, 652, 653, 654, 655] (by decide +kernel) (by decide +kernel)
set_option maxRecDepth 20000 in
theorem gL_law_X9_tape : GoodIn wsL_law (wsV RL 56 RX9 yX9_tape wsX9_tape) := goodIn_app (goodIn_of _ (by decide +kernel)) ggL_law_X9_tape
set_option maxRecDepth 20000 in
theorem ggL_law_X8_push : GoodIn wsL_law wsX8_push := goodIn_r _ [444, 15, 428, 399, 445, 363, 364, 38, 365, 366, 58, 639, 640, 641, 642, 643, 656, 657, 658, 659, 674, 675] (by decide +kernel) (by decide +kernel)
set_option maxRecDepth 20000 in
theorem gL_law_X8_push : GoodIn wsL_law (wsV RL 57 RX8 yX8_push wsX8_push) := goodIn_app (goodIn_of _ (by decide +kernel)) ggL_law_X8_push
set_option maxRecDepth 20000 in
theorem ggL_law_X9_push : GoodIn wsL_law wsX9_push := goodIn_r _ [449, 92, 136, 137, 5, 138, 644, 645, 646, 647, 648, 649, 650, 651, 652, 653, 654, 655] (by decide +kernel) (by decide +kernel)
set_option maxRecDepth 20000 in
theorem gL_law_X9_push : GoodIn wsL_law (wsV RL 60 RX9 yX9_push wsX9_push) := goodIn_app (goodIn_of _ (by decide +kernel)) ggL_law_X9_push
set_option maxRecDepth 20000 in
theorem ggL_law_X8_flip : GoodIn wsL_law wsX8_flip := goodIn_r _ [453, 15, 428, 454, 455, 456, 38, 457, 366, 458, 459, 460, 461, 58, 462, 639, 640, 641, 642, 643, 656, 657, 658, 659, 674, 675] (by decide +kernel) (by decide +kernel)
set_option maxRecDepth 20000 in
theorem gL_law_X8_flip : GoodIn wsL_law (wsV RL 61 RX8 yX8_flip wsX8_flip) := goodIn_app (goodIn_of _ (by decide +kernel)) ggL_law_X8_flip
set_option maxRecDepth 20000 in
theorem ggL_law_X9_flip : GoodIn wsL_law wsX9_flip := goodIn_r _ [466, 92, 136, 137, 5, 138, 644, 645, 646, 647, 648, 649, 650, 651, 652, 653, 654, 655] (by decide +kernel) (by decide +kernel)
set_option maxRecDepth 20000 in
theorem gL_law_X9_flip : GoodIn wsL_law (wsV RL 64 RX9 yX9_flip wsX9_flip) := goodIn_app (goodIn_of _ (by decide +kernel)) ggL_law_X9_flip
set_option maxRecDepth 20000 in
theorem ggL_law_X8_cut : GoodIn wsL_law wsX8_cut := goodIn_r _ [470, 15, 428, 399, 639, 640, 641, 642, 643, 656, 657, 658, 659, 674, 675] (by decide +kernel) (by decide +kernel)
set_option maxRecDepth 20000 in
theorem gL_law_X8_cut : GoodIn wsL_law (wsV RL 65 RX8 yX8_cut wsX8_cut) := goodIn_app (goodIn_of _ (by decide +kernel)) ggL_law_X8_cut
set_option maxRecDepth 20000 in
theorem ggL_law_X9_cut : GoodIn wsL_law wsX9_cut := goodIn_r _ [474, 92, 136, 137, 5, 138, 644, 645, 646, 647, 648, 649, 650, 651, 652, 653, 654, 655] (by decide +kernel) (by decide +kernel)
set_option maxRecDepth 20000 in
theorem gL_law_X9_cut : GoodIn wsL_law (wsV RL 68 RX9 yX9_cut wsX9_cut) := goodIn_app (goodIn_of _ (by decide +kernel)) ggL_law_X9_cut
set_option maxRecDepth 20000 in
theorem ggL_law_X8_bit : GoodIn wsL_law wsX8_bit := goodIn_r _ [478, 15, 428, 399, 404, 405, 406, 38, 407, 366, 58, 639, 640, 641, 642, 643, 656, 657, 658, 659, 674, 675] (by decide +kernel) (by decide +kernel)
set_option maxRecDepth 20000 in
theorem gL_law_X8_bit : GoodIn wsL_law (wsV RL 69 RX8 yX8_bit wsX8_bit) := goodIn_app (goodIn_of _ (by decide +kernel)) ggL_law_X8_bit
set_option maxRecDepth 20000 in
theorem ggL_law_X9_bit : GoodIn wsL_law wsX9_bit := goodIn_r _ [482, 92, 644, 645, 646, 647, 648, 649, 650, 651, 652, 653, 654, 655] (by decide +kernel) (by decide +kernel)
set_option maxRecDepth 20000 in
theorem gL_law_X9_bit : GoodIn wsL_law (wsV RL 72 RX9 yX9_bit wsX9_bit) := goodIn_app (goodIn_of _ (by decide +kernel)) ggL_law_X9_bit
set_option maxRecDepth 20000 in
theorem ggL_law_X8_read : GoodIn wsL_law wsX8_read := goodIn_r _ [486, 24, 15, 105, 428, 487, 488, 104, 489, 20, 490, 491, 492, 23, 493, 85, 494, 495, 87, 496, 497, 498, 499, 500, 42, 501, 62, 63, 64, 265, 2, 266, 267, 160, 161, 502, 503, 504, 505, 506, 285, 286, 30, 287, 48, 288, 214, 113, 215, 507, 508, 509, 510, 511, 512, 513, 514, 515, 516, 517, 518, 519, 520, 521, 522, 523, 405, 406, 38, 407, 366, 58, 116, 117, 296, 297, 524, 206, 207, 208, 49, 525, 526, 527, 528, 529, 530, 531, 532, 533, 455, 456, 457, 210, 211, 212, 213, 216, 112, 114, 115, 186, 187, 188, 34, 189, 110, 54, 205, 534, 153, 154, 155, 47, 535, 536, 537, 163, 164, 165, 538, 539, 540, 541, 542, 543, 544, 545, 546, 547, 434, 435, 436, 126, 127, 128, 19, 129, 130, 72, 70, 131, 639, 640, 641, 642, 643, 656, 657, 658, 659, 666, 667, 668, 672, 673, 669, 670, 671, 674, 675, 676, 677, 678, 660, 661, 662, 663, 664, 665] (by decide +kernel) (by decide +kernel)
set_option maxRecDepth 20000 in
theorem gL_law_X8_read : GoodIn wsL_law (wsV RL 73 RX8 yX8_read wsX8_read) := goodIn_app (goodIn_of _ (by decide +kernel)) ggL_law_X8_read
set_option maxRecDepth 20000 in
theorem ggL_law_X9_read : GoodIn wsL_law wsX9_read := goodIn_r _ [551, 552, 553, 554, 92, 555, 96, 136, 137, 5, 138, 330, 331, 332, 556, 557, 558, 559, 560, 561, 562, 563, 564, 565, 566, 567, 318, 319, 320, 321, 568, 569, 570, 571, 227, 228, 229, 230, 231, 232, 233, 234, 572, 573, 574, 575, 170, 171, 172, 173, 239, 240, 241, 242, 576, 577, 578, 579, 247, 248, 249, 250, 644, 645, 646, 647, 648, 649, 650, 651, 652, 653, 654, 655] (by decide +kernel) (by decide +kernel)
set_option maxRecDepth 20000 in
theorem gL_law_X9_read : GoodIn wsL_law (wsV RL 76 RX9 yX9_read wsX9_read) := goodIn_app (goodIn_of _ (by decide +kernel)) ggL_law_X9_read
set_option maxRecDepth 20000 in
theorem ggL_law_X8_fault : GoodIn wsL_law wsX8_fault := goodIn_r _ [583, 15, 487, 584, 585, 586, 639, 640, 641, 642, 643, 656, 657, 658, 659, 676, 677, 678] (by decide +kernel) (by decide +kernel)
set_option maxRecDepth 20000 in
theorem gL_law_X8_fault : GoodIn wsL_law (wsV RL 77 RX8 yX8_fault wsX8_fault) := goodIn_app (goodIn_of _ (by decide +kernel)) ggL_law_X8_fault
set_option maxRecDepth 20000 in
theorem ggL_law_X9_fault : GoodIn wsL_law wsX9_fault := goodIn_r _ [590, 92, 136, 137, 5, 138, 644, 645, 646, 647, 648, 649, 650, 651, 652, 653, 654, 655] (by decide +kernel) (by decide +kernel)
set_option maxRecDepth 20000 in
theorem gL_law_X9_fault : GoodIn wsL_law (wsV RL 80 RX9 yX9_fault wsX9_fault) := goodIn_app (goodIn_of _ (by decide +kernel)) ggL_law_X9_fault
set_option maxRecDepth 20000 in
theorem ggL_law_X8_image : GoodIn wsL_law wsX8_image := goodIn_r _ [594, 16, 15, 595, 596, 597, 2, 598, 599, 600, 601, 14, 602, 31, 35, 39, 43, 603, 604, 605, 30, 606, 47, 48, 49, 607, 544, 545, 34, 546, 54, 110, 547, 434, 435, 436, 608, 430, 431, 38, 432, 58, 366, 433, 609, 539, 540, 42, 541, 62, 63, 64, 639, 640, 641, 642, 643, 656, 657, 658, 659, 669, 670, 671, 672, 673, 674, 675, 676, 677, 678] (by decide +kernel) (by decide +kernel)
set_option maxRecDepth 20000 in
theorem gL_law_X8_image : GoodIn wsL_law (wsV RL 81 RX8 yX8_image wsX8_image) := goodIn_app (goodIn_of _ (by decide +kernel)) ggL_law_X8_image
set_option maxRecDepth 20000 in
theorem ggL_law_X9_image : GoodIn wsL_law wsX9_image := goodIn_r _ [613, 93, 92, 95, 136, 137, 5, 138, 644, 645, 646, 647, 648, 649, 650, 651, 652, 653, 654, 655] (by decide +kernel) (by decide +kernel)
set_option maxRecDepth 20000 in
theorem gL_law_X9_image : GoodIn wsL_law (wsV RL 84 RX9 yX9_image wsX9_image) := goodIn_app (goodIn_of _ (by decide +kernel)) ggL_law_X9_image
set_option maxRecDepth 20000 in
theorem ggL_law_X8_restore : GoodIn wsL_law wsX8_restore := goodIn_r _ [617, 595, 15, 16, 20, 596, 597, 2, 598, 599, 600, 601, 14, 602, 31, 35, 39, 43, 603, 604, 605, 30, 606, 47, 48, 49, 607, 544, 545, 34, 546, 54, 110, 547, 434, 435, 436, 608, 430, 431, 38, 432, 58, 366, 433, 609, 539, 540, 42, 541, 62, 63, 64, 126, 127, 128, 19, 129, 130, 72, 70, 131, 639, 640, 641, 642, 643, 656, 657, 658, 659, 669, 670, 671, 672, 673, 674, 675, 676, 677, 678, 660, 661, 662, 663, 664, 665] (by decide +kernel) (by decide +kernel)
set_option maxRecDepth 20000 in
theorem gL_law_X8_restore : GoodIn wsL_law (wsV RL 85 RX8 yX8_restore wsX8_restore) := goodIn_app (goodIn_of _ (by decide +kernel)) ggL_law_X8_restore
set_option maxRecDepth 20000 in
theorem ggL_law_X9_restore : GoodIn wsL_law wsX9_restore := goodIn_r _ [621, 95, 92, 93, 136, 137, 5, 138, 644, 645, 646, 647, 648, 649, 650, 651, 652, 653, 654, 655] (by decide +kernel) (by decide +kernel)
set_option maxRecDepth 20000 in
theorem gL_law_X9_restore : GoodIn wsL_law (wsV RL 88 RX9 yX9_restore wsX9_restore) := goodIn_app (goodIn_of _ (by decide +kernel)) ggL_law_X9_restore
set_option maxRecDepth 20000 in
theorem ggL_law_X8_count : GoodIn wsL_law wsX8_count := goodIn_r _ [625, 15, 104, 151, 105, 20, 398, 399, 428, 595, 259, 260, 261, 2, 262, 263, 264, 265, 266, 267, 160, 161, 416, 417, 418, 30, 419, 48, 49, 400, 401, 402, 403, 345, 346, 347, 19, 348, 349, 214, 113, 215, 130, 76, 68, 72, 69, 70, 131, 350, 351, 352, 353, 272, 273, 274, 75, 275, 276, 277, 278, 279, 280, 281, 282, 283, 80, 284, 285, 286, 287, 288, 289, 206, 207, 208, 290, 187, 188, 34, 189, 110, 54, 210, 211, 212, 213, 216, 112, 114, 115, 116, 117, 186, 205, 291, 153, 154, 155, 47, 218, 219, 220, 221, 222, 292, 293, 294, 295, 296, 297, 298, 299, 300, 301, 354, 355, 356, 357, 358, 359, 360, 38, 361, 362, 363, 364, 365, 366, 58, 367, 368, 369, 370, 371, 118, 119, 120, 121, 626, 627, 628, 629, 639, 640, 641, 642, 643, 656, 657, 658, 659, 672, 673, 660, 661, 662, 663, 664, 665, 674, 675, 669, 670, 671, 679, 680, 681, 682, 683, 684] (by decide +kernel) (by decide +kernel)
set_option maxRecDepth 20000 in
theorem gL_law_X8_count : GoodIn wsL_law (wsV RL 89 RX8 yX8_count wsX8_count) := goodIn_app (goodIn_of _ (by decide +kernel)) ggL_law_X8_count
set_option maxRecDepth 20000 in
theorem ggL_law_X9_count : GoodIn wsL_law wsX9_count := goodIn_r _ [633, 92, 95, 143, 144, 145, 5, 146, 310, 311, 312, 313, 231, 232, 233, 234, 634, 409, 410, 411, 381, 97, 377, 378, 379, 380, 98, 99, 96, 235, 236, 237, 238, 382, 383, 384, 385, 314, 315, 316, 317, 318, 319, 320, 321, 136, 137, 138, 322, 323, 324, 325, 326, 327, 328, 329, 330, 331, 332, 227, 228, 229, 230, 239, 240, 241, 242, 170, 171, 172, 173, 243, 244, 245, 246, 247, 248, 249, 250, 333, 334, 335, 336, 386, 387, 388, 389, 390, 391, 392, 393, 635, 636, 637, 638, 644, 645, 646, 647, 648, 649, 650, 651, 652, 653, 654, 655] (by decide +kernel) (by decide +kernel)
set_option maxRecDepth 20000 in
theorem gL_law_X9_count : GoodIn wsL_law (wsV RL 92 RX9 yX9_count wsX9_count) := goodIn_app (goodIn_of _ (by decide +kernel)) ggL_law_X9_count
theorem dL_law_0 : decode cL_law 0 = .ok (.new 7, 3) := by decide +kernel
theorem dL_law_3 : decode cL_law 3 = .ok (.dup, 1) := by decide +kernel
theorem dL_law_4 : decode cL_law 4 = .ok (.invokespecial 9, 3) := by decide +kernel
theorem dL_law_7 : decode cL_law 7 = .ok (.astore_n 1, 1) := by decide +kernel
theorem dL_law_8 : decode cL_law 8 = .ok (.new 10, 3) := by decide +kernel
theorem dL_law_11 : decode cL_law 11 = .ok (.dup, 1) := by decide +kernel
theorem dL_law_12 : decode cL_law 12 = .ok (.invokespecial 12, 3) := by decide +kernel
theorem dL_law_15 : decode cL_law 15 = .ok (.astore_n 2, 1) := by decide +kernel
theorem dL_law_16 : decode cL_law 16 = .ok (.iconst 0, 1) := by decide +kernel
theorem dL_law_17 : decode cL_law 17 = .ok (.istore_n 3, 1) := by decide +kernel
theorem dL_law_18 : decode cL_law 18 = .ok (.iload_n 3, 1) := by decide +kernel
theorem dL_law_19 : decode cL_law 19 = .ok (.aload_n 0, 1) := by decide +kernel
theorem dL_law_20 : decode cL_law 20 = .ok (.arraylength, 1) := by decide +kernel
theorem dL_law_21 : decode cL_law 21 = .ok (.iconst 4, 1) := by decide +kernel
theorem dL_law_22 : decode cL_law 22 = .ok (.isub, 1) := by decide +kernel
theorem dL_law_23 : decode cL_law 23 = .ok (.if_icmp .gt 584, 3) := by decide +kernel
theorem dL_law_26 : decode cL_law 26 = .ok (.aload_n 0, 1) := by decide +kernel
theorem dL_law_27 : decode cL_law 27 = .ok (.iload_n 3, 1) := by decide +kernel
theorem dL_law_28 : decode cL_law 28 = .ok (.iaload, 1) := by decide +kernel
theorem dL_law_29 : decode cL_law 29 = .ok (.bipush 31, 2) := by decide +kernel
theorem dL_law_31 : decode cL_law 31 = .ok (.iand, 1) := by decide +kernel
theorem dL_law_32 : decode cL_law 32 = .ok (.tableswitch 569 0 18 #[92, 125, 148, 161, 184, 227, 270, 303, 326, 349, 362, 385, 408, 431, 454, 477, 500, 523, 546], 92) := by decide +kernel
theorem dL_law_124 : decode cL_law 124 = .ok (.aload_n 1, 1) := by decide +kernel
theorem dL_law_125 : decode cL_law 125 = .ok (.aload_n 0, 1) := by decide +kernel
theorem dL_law_126 : decode cL_law 126 = .ok (.iload_n 3, 1) := by decide +kernel
theorem dL_law_127 : decode cL_law 127 = .ok (.iconst 1, 1) := by decide +kernel
theorem dL_law_128 : decode cL_law 128 = .ok (.iadd, 1) := by decide +kernel
theorem dL_law_129 : decode cL_law 129 = .ok (.iaload, 1) := by decide +kernel
theorem dL_law_130 : decode cL_law 130 = .ok (.aload_n 0, 1) := by decide +kernel
theorem dL_law_131 : decode cL_law 131 = .ok (.iload_n 3, 1) := by decide +kernel
theorem dL_law_132 : decode cL_law 132 = .ok (.iconst 2, 1) := by decide +kernel
theorem dL_law_133 : decode cL_law 133 = .ok (.iadd, 1) := by decide +kernel
theorem dL_law_134 : decode cL_law 134 = .ok (.iaload, 1) := by decide +kernel
theorem dL_law_135 : decode cL_law 135 = .ok (.invokevirtual 13, 3) := by decide +kernel
theorem dL_law_138 : decode cL_law 138 = .ok (.aload_n 2, 1) := by decide +kernel
theorem dL_law_139 : decode cL_law 139 = .ok (.aload_n 0, 1) := by decide +kernel
theorem dL_law_140 : decode cL_law 140 = .ok (.iload_n 3, 1) := by decide +kernel
theorem dL_law_141 : decode cL_law 141 = .ok (.iconst 1, 1) := by decide +kernel
theorem dL_law_142 : decode cL_law 142 = .ok (.iadd, 1) := by decide +kernel
theorem dL_law_143 : decode cL_law 143 = .ok (.iaload, 1) := by decide +kernel
theorem dL_law_144 : decode cL_law 144 = .ok (.aload_n 0, 1) := by decide +kernel
theorem dL_law_145 : decode cL_law 145 = .ok (.iload_n 3, 1) := by decide +kernel
theorem dL_law_146 : decode cL_law 146 = .ok (.iconst 2, 1) := by decide +kernel
theorem dL_law_147 : decode cL_law 147 = .ok (.iadd, 1) := by decide +kernel
theorem dL_law_148 : decode cL_law 148 = .ok (.iaload, 1) := by decide +kernel
theorem dL_law_149 : decode cL_law 149 = .ok (.invokevirtual 17, 3) := by decide +kernel
theorem dL_law_152 : decode cL_law 152 = .ok (.if_icmp .eq 449, 3) := by decide +kernel
theorem dL_law_155 : decode cL_law 155 = .ok (.iconst 0, 1) := by decide +kernel
theorem dL_law_156 : decode cL_law 156 = .ok (.ireturn, 1) := by decide +kernel
theorem dL_law_157 : decode cL_law 157 = .ok (.aload_n 1, 1) := by decide +kernel
theorem dL_law_158 : decode cL_law 158 = .ok (.aload_n 0, 1) := by decide +kernel
theorem dL_law_159 : decode cL_law 159 = .ok (.iload_n 3, 1) := by decide +kernel
theorem dL_law_160 : decode cL_law 160 = .ok (.iconst 1, 1) := by decide +kernel
theorem dL_law_161 : decode cL_law 161 = .ok (.iadd, 1) := by decide +kernel
theorem dL_law_162 : decode cL_law 162 = .ok (.iaload, 1) := by decide +kernel
theorem dL_law_163 : decode cL_law 163 = .ok (.invokevirtual 18, 3) := by decide +kernel
theorem dL_law_166 : decode cL_law 166 = .ok (.aload_n 2, 1) := by decide +kernel
theorem dL_law_167 : decode cL_law 167 = .ok (.aload_n 0, 1) := by decide +kernel
theorem dL_law_168 : decode cL_law 168 = .ok (.iload_n 3, 1) := by decide +kernel
theorem dL_law_169 : decode cL_law 169 = .ok (.iconst 1, 1) := by decide +kernel
theorem dL_law_170 : decode cL_law 170 = .ok (.iadd, 1) := by decide +kernel
theorem dL_law_171 : decode cL_law 171 = .ok (.iaload, 1) := by decide +kernel
theorem dL_law_172 : decode cL_law 172 = .ok (.invokevirtual 22, 3) := by decide +kernel
theorem dL_law_175 : decode cL_law 175 = .ok (.if_icmp .eq 426, 3) := by decide +kernel
theorem dL_law_178 : decode cL_law 178 = .ok (.iconst 0, 1) := by decide +kernel
theorem dL_law_179 : decode cL_law 179 = .ok (.ireturn, 1) := by decide +kernel
theorem dL_law_180 : decode cL_law 180 = .ok (.aload_n 1, 1) := by decide +kernel
theorem dL_law_181 : decode cL_law 181 = .ok (.invokevirtual 23, 3) := by decide +kernel
theorem dL_law_184 : decode cL_law 184 = .ok (.aload_n 2, 1) := by decide +kernel
theorem dL_law_185 : decode cL_law 185 = .ok (.invokevirtual 27, 3) := by decide +kernel
theorem dL_law_188 : decode cL_law 188 = .ok (.if_icmp .eq 413, 3) := by decide +kernel
theorem dL_law_191 : decode cL_law 191 = .ok (.iconst 0, 1) := by decide +kernel
theorem dL_law_192 : decode cL_law 192 = .ok (.ireturn, 1) := by decide +kernel
theorem dL_law_193 : decode cL_law 193 = .ok (.aload_n 1, 1) := by decide +kernel
theorem dL_law_194 : decode cL_law 194 = .ok (.aload_n 0, 1) := by decide +kernel
theorem dL_law_195 : decode cL_law 195 = .ok (.iload_n 3, 1) := by decide +kernel
theorem dL_law_196 : decode cL_law 196 = .ok (.iconst 1, 1) := by decide +kernel
theorem dL_law_197 : decode cL_law 197 = .ok (.iadd, 1) := by decide +kernel
theorem dL_law_198 : decode cL_law 198 = .ok (.iaload, 1) := by decide +kernel
theorem dL_law_199 : decode cL_law 199 = .ok (.invokevirtual 28, 3) := by decide +kernel
theorem dL_law_202 : decode cL_law 202 = .ok (.aload_n 2, 1) := by decide +kernel
theorem dL_law_203 : decode cL_law 203 = .ok (.aload_n 0, 1) := by decide +kernel
theorem dL_law_204 : decode cL_law 204 = .ok (.iload_n 3, 1) := by decide +kernel
theorem dL_law_205 : decode cL_law 205 = .ok (.iconst 1, 1) := by decide +kernel
theorem dL_law_206 : decode cL_law 206 = .ok (.iadd, 1) := by decide +kernel
theorem dL_law_207 : decode cL_law 207 = .ok (.iaload, 1) := by decide +kernel
theorem dL_law_208 : decode cL_law 208 = .ok (.invokevirtual 31, 3) := by decide +kernel
theorem dL_law_211 : decode cL_law 211 = .ok (.if_icmp .eq 390, 3) := by decide +kernel
theorem dL_law_214 : decode cL_law 214 = .ok (.iconst 0, 1) := by decide +kernel
theorem dL_law_215 : decode cL_law 215 = .ok (.ireturn, 1) := by decide +kernel
theorem dL_law_216 : decode cL_law 216 = .ok (.aload_n 1, 1) := by decide +kernel
theorem dL_law_217 : decode cL_law 217 = .ok (.aload_n 0, 1) := by decide +kernel
theorem dL_law_218 : decode cL_law 218 = .ok (.iload_n 3, 1) := by decide +kernel
theorem dL_law_219 : decode cL_law 219 = .ok (.iconst 1, 1) := by decide +kernel
theorem dL_law_220 : decode cL_law 220 = .ok (.iadd, 1) := by decide +kernel
theorem dL_law_221 : decode cL_law 221 = .ok (.iaload, 1) := by decide +kernel
theorem dL_law_222 : decode cL_law 222 = .ok (.aload_n 0, 1) := by decide +kernel
theorem dL_law_223 : decode cL_law 223 = .ok (.iload_n 3, 1) := by decide +kernel
theorem dL_law_224 : decode cL_law 224 = .ok (.iconst 2, 1) := by decide +kernel
theorem dL_law_225 : decode cL_law 225 = .ok (.iadd, 1) := by decide +kernel
theorem dL_law_226 : decode cL_law 226 = .ok (.iaload, 1) := by decide +kernel
theorem dL_law_227 : decode cL_law 227 = .ok (.aload_n 0, 1) := by decide +kernel
theorem dL_law_228 : decode cL_law 228 = .ok (.iload_n 3, 1) := by decide +kernel
theorem dL_law_229 : decode cL_law 229 = .ok (.iconst 3, 1) := by decide +kernel
theorem dL_law_230 : decode cL_law 230 = .ok (.iadd, 1) := by decide +kernel
theorem dL_law_231 : decode cL_law 231 = .ok (.iaload, 1) := by decide +kernel
theorem dL_law_232 : decode cL_law 232 = .ok (.invokevirtual 32, 3) := by decide +kernel
theorem dL_law_235 : decode cL_law 235 = .ok (.aload_n 2, 1) := by decide +kernel
theorem dL_law_236 : decode cL_law 236 = .ok (.aload_n 0, 1) := by decide +kernel
theorem dL_law_237 : decode cL_law 237 = .ok (.iload_n 3, 1) := by decide +kernel
theorem dL_law_238 : decode cL_law 238 = .ok (.iconst 1, 1) := by decide +kernel
theorem dL_law_239 : decode cL_law 239 = .ok (.iadd, 1) := by decide +kernel
theorem dL_law_240 : decode cL_law 240 = .ok (.iaload, 1) := by decide +kernel
theorem dL_law_241 : decode cL_law 241 = .ok (.aload_n 0, 1) := by decide +kernel
theorem dL_law_242 : decode cL_law 242 = .ok (.iload_n 3, 1) := by decide +kernel
theorem dL_law_243 : decode cL_law 243 = .ok (.iconst 2, 1) := by decide +kernel
theorem dL_law_244 : decode cL_law 244 = .ok (.iadd, 1) := by decide +kernel
theorem dL_law_245 : decode cL_law 245 = .ok (.iaload, 1) := by decide +kernel
theorem dL_law_246 : decode cL_law 246 = .ok (.aload_n 0, 1) := by decide +kernel
theorem dL_law_247 : decode cL_law 247 = .ok (.iload_n 3, 1) := by decide +kernel
theorem dL_law_248 : decode cL_law 248 = .ok (.iconst 3, 1) := by decide +kernel
theorem dL_law_249 : decode cL_law 249 = .ok (.iadd, 1) := by decide +kernel
theorem dL_law_250 : decode cL_law 250 = .ok (.iaload, 1) := by decide +kernel
theorem dL_law_251 : decode cL_law 251 = .ok (.invokevirtual 36, 3) := by decide +kernel
theorem dL_law_254 : decode cL_law 254 = .ok (.if_icmp .eq 347, 3) := by decide +kernel
theorem dL_law_257 : decode cL_law 257 = .ok (.iconst 0, 1) := by decide +kernel
theorem dL_law_258 : decode cL_law 258 = .ok (.ireturn, 1) := by decide +kernel
theorem dL_law_259 : decode cL_law 259 = .ok (.aload_n 1, 1) := by decide +kernel
theorem dL_law_260 : decode cL_law 260 = .ok (.aload_n 0, 1) := by decide +kernel
theorem dL_law_261 : decode cL_law 261 = .ok (.iload_n 3, 1) := by decide +kernel
theorem dL_law_262 : decode cL_law 262 = .ok (.iconst 1, 1) := by decide +kernel
theorem dL_law_263 : decode cL_law 263 = .ok (.iadd, 1) := by decide +kernel
theorem dL_law_264 : decode cL_law 264 = .ok (.iaload, 1) := by decide +kernel
theorem dL_law_265 : decode cL_law 265 = .ok (.aload_n 0, 1) := by decide +kernel
theorem dL_law_266 : decode cL_law 266 = .ok (.iload_n 3, 1) := by decide +kernel
theorem dL_law_267 : decode cL_law 267 = .ok (.iconst 2, 1) := by decide +kernel
theorem dL_law_268 : decode cL_law 268 = .ok (.iadd, 1) := by decide +kernel
theorem dL_law_269 : decode cL_law 269 = .ok (.iaload, 1) := by decide +kernel
theorem dL_law_270 : decode cL_law 270 = .ok (.aload_n 0, 1) := by decide +kernel
theorem dL_law_271 : decode cL_law 271 = .ok (.iload_n 3, 1) := by decide +kernel
theorem dL_law_272 : decode cL_law 272 = .ok (.iconst 3, 1) := by decide +kernel
theorem dL_law_273 : decode cL_law 273 = .ok (.iadd, 1) := by decide +kernel
theorem dL_law_274 : decode cL_law 274 = .ok (.iaload, 1) := by decide +kernel
theorem dL_law_275 : decode cL_law 275 = .ok (.invokevirtual 37, 3) := by decide +kernel
theorem dL_law_278 : decode cL_law 278 = .ok (.aload_n 2, 1) := by decide +kernel
theorem dL_law_279 : decode cL_law 279 = .ok (.aload_n 0, 1) := by decide +kernel
theorem dL_law_280 : decode cL_law 280 = .ok (.iload_n 3, 1) := by decide +kernel
theorem dL_law_281 : decode cL_law 281 = .ok (.iconst 1, 1) := by decide +kernel
theorem dL_law_282 : decode cL_law 282 = .ok (.iadd, 1) := by decide +kernel
theorem dL_law_283 : decode cL_law 283 = .ok (.iaload, 1) := by decide +kernel
theorem dL_law_284 : decode cL_law 284 = .ok (.aload_n 0, 1) := by decide +kernel
theorem dL_law_285 : decode cL_law 285 = .ok (.iload_n 3, 1) := by decide +kernel
theorem dL_law_286 : decode cL_law 286 = .ok (.iconst 2, 1) := by decide +kernel
theorem dL_law_287 : decode cL_law 287 = .ok (.iadd, 1) := by decide +kernel
theorem dL_law_288 : decode cL_law 288 = .ok (.iaload, 1) := by decide +kernel
theorem dL_law_289 : decode cL_law 289 = .ok (.aload_n 0, 1) := by decide +kernel
theorem dL_law_290 : decode cL_law 290 = .ok (.iload_n 3, 1) := by decide +kernel
theorem dL_law_291 : decode cL_law 291 = .ok (.iconst 3, 1) := by decide +kernel
theorem dL_law_292 : decode cL_law 292 = .ok (.iadd, 1) := by decide +kernel
theorem dL_law_293 : decode cL_law 293 = .ok (.iaload, 1) := by decide +kernel
theorem dL_law_294 : decode cL_law 294 = .ok (.invokevirtual 40, 3) := by decide +kernel
theorem dL_law_297 : decode cL_law 297 = .ok (.if_icmp .eq 304, 3) := by decide +kernel
theorem dL_law_300 : decode cL_law 300 = .ok (.iconst 0, 1) := by decide +kernel
theorem dL_law_301 : decode cL_law 301 = .ok (.ireturn, 1) := by decide +kernel
theorem dL_law_302 : decode cL_law 302 = .ok (.aload_n 1, 1) := by decide +kernel
theorem dL_law_303 : decode cL_law 303 = .ok (.aload_n 0, 1) := by decide +kernel
theorem dL_law_304 : decode cL_law 304 = .ok (.iload_n 3, 1) := by decide +kernel
theorem dL_law_305 : decode cL_law 305 = .ok (.iconst 1, 1) := by decide +kernel
theorem dL_law_306 : decode cL_law 306 = .ok (.iadd, 1) := by decide +kernel
theorem dL_law_307 : decode cL_law 307 = .ok (.iaload, 1) := by decide +kernel
theorem dL_law_308 : decode cL_law 308 = .ok (.aload_n 0, 1) := by decide +kernel
theorem dL_law_309 : decode cL_law 309 = .ok (.iload_n 3, 1) := by decide +kernel
theorem dL_law_310 : decode cL_law 310 = .ok (.iconst 2, 1) := by decide +kernel
theorem dL_law_311 : decode cL_law 311 = .ok (.iadd, 1) := by decide +kernel
theorem dL_law_312 : decode cL_law 312 = .ok (.iaload, 1) := by decide +kernel
theorem dL_law_313 : decode cL_law 313 = .ok (.invokevirtual 41, 3) := by decide +kernel
theorem dL_law_316 : decode cL_law 316 = .ok (.aload_n 2, 1) := by decide +kernel
theorem dL_law_317 : decode cL_law 317 = .ok (.aload_n 0, 1) := by decide +kernel
theorem dL_law_318 : decode cL_law 318 = .ok (.iload_n 3, 1) := by decide +kernel
theorem dL_law_319 : decode cL_law 319 = .ok (.iconst 1, 1) := by decide +kernel
theorem dL_law_320 : decode cL_law 320 = .ok (.iadd, 1) := by decide +kernel
theorem dL_law_321 : decode cL_law 321 = .ok (.iaload, 1) := by decide +kernel
theorem dL_law_322 : decode cL_law 322 = .ok (.aload_n 0, 1) := by decide +kernel
theorem dL_law_323 : decode cL_law 323 = .ok (.iload_n 3, 1) := by decide +kernel
theorem dL_law_324 : decode cL_law 324 = .ok (.iconst 2, 1) := by decide +kernel
theorem dL_law_325 : decode cL_law 325 = .ok (.iadd, 1) := by decide +kernel
theorem dL_law_326 : decode cL_law 326 = .ok (.iaload, 1) := by decide +kernel
theorem dL_law_327 : decode cL_law 327 = .ok (.invokevirtual 44, 3) := by decide +kernel
theorem dL_law_330 : decode cL_law 330 = .ok (.if_icmp .eq 271, 3) := by decide +kernel
theorem dL_law_333 : decode cL_law 333 = .ok (.iconst 0, 1) := by decide +kernel
theorem dL_law_334 : decode cL_law 334 = .ok (.ireturn, 1) := by decide +kernel
theorem dL_law_335 : decode cL_law 335 = .ok (.aload_n 1, 1) := by decide +kernel
theorem dL_law_336 : decode cL_law 336 = .ok (.aload_n 0, 1) := by decide +kernel
theorem dL_law_337 : decode cL_law 337 = .ok (.iload_n 3, 1) := by decide +kernel
theorem dL_law_338 : decode cL_law 338 = .ok (.iconst 1, 1) := by decide +kernel
theorem dL_law_339 : decode cL_law 339 = .ok (.iadd, 1) := by decide +kernel
theorem dL_law_340 : decode cL_law 340 = .ok (.iaload, 1) := by decide +kernel
theorem dL_law_341 : decode cL_law 341 = .ok (.invokevirtual 45, 3) := by decide +kernel
theorem dL_law_344 : decode cL_law 344 = .ok (.aload_n 2, 1) := by decide +kernel
theorem dL_law_345 : decode cL_law 345 = .ok (.aload_n 0, 1) := by decide +kernel
theorem dL_law_346 : decode cL_law 346 = .ok (.iload_n 3, 1) := by decide +kernel
theorem dL_law_347 : decode cL_law 347 = .ok (.iconst 1, 1) := by decide +kernel
theorem dL_law_348 : decode cL_law 348 = .ok (.iadd, 1) := by decide +kernel
theorem dL_law_349 : decode cL_law 349 = .ok (.iaload, 1) := by decide +kernel
theorem dL_law_350 : decode cL_law 350 = .ok (.invokevirtual 48, 3) := by decide +kernel
theorem dL_law_353 : decode cL_law 353 = .ok (.if_icmp .eq 248, 3) := by decide +kernel
theorem dL_law_356 : decode cL_law 356 = .ok (.iconst 0, 1) := by decide +kernel
theorem dL_law_357 : decode cL_law 357 = .ok (.ireturn, 1) := by decide +kernel
theorem dL_law_358 : decode cL_law 358 = .ok (.aload_n 1, 1) := by decide +kernel
theorem dL_law_359 : decode cL_law 359 = .ok (.aload_n 0, 1) := by decide +kernel
theorem dL_law_360 : decode cL_law 360 = .ok (.iload_n 3, 1) := by decide +kernel
theorem dL_law_361 : decode cL_law 361 = .ok (.iconst 1, 1) := by decide +kernel
theorem dL_law_362 : decode cL_law 362 = .ok (.iadd, 1) := by decide +kernel
theorem dL_law_363 : decode cL_law 363 = .ok (.iaload, 1) := by decide +kernel
theorem dL_law_364 : decode cL_law 364 = .ok (.invokevirtual 49, 3) := by decide +kernel
theorem dL_law_367 : decode cL_law 367 = .ok (.aload_n 2, 1) := by decide +kernel
theorem dL_law_368 : decode cL_law 368 = .ok (.aload_n 0, 1) := by decide +kernel
theorem dL_law_369 : decode cL_law 369 = .ok (.iload_n 3, 1) := by decide +kernel
theorem dL_law_370 : decode cL_law 370 = .ok (.iconst 1, 1) := by decide +kernel
theorem dL_law_371 : decode cL_law 371 = .ok (.iadd, 1) := by decide +kernel
theorem dL_law_372 : decode cL_law 372 = .ok (.iaload, 1) := by decide +kernel
theorem dL_law_373 : decode cL_law 373 = .ok (.invokevirtual 52, 3) := by decide +kernel
theorem dL_law_376 : decode cL_law 376 = .ok (.if_icmp .eq 225, 3) := by decide +kernel
theorem dL_law_379 : decode cL_law 379 = .ok (.iconst 0, 1) := by decide +kernel
theorem dL_law_380 : decode cL_law 380 = .ok (.ireturn, 1) := by decide +kernel
theorem dL_law_381 : decode cL_law 381 = .ok (.aload_n 1, 1) := by decide +kernel
theorem dL_law_382 : decode cL_law 382 = .ok (.invokevirtual 53, 3) := by decide +kernel
theorem dL_law_385 : decode cL_law 385 = .ok (.aload_n 2, 1) := by decide +kernel
theorem dL_law_386 : decode cL_law 386 = .ok (.invokevirtual 56, 3) := by decide +kernel
theorem dL_law_389 : decode cL_law 389 = .ok (.if_icmp .eq 212, 3) := by decide +kernel
theorem dL_law_392 : decode cL_law 392 = .ok (.iconst 0, 1) := by decide +kernel
theorem dL_law_393 : decode cL_law 393 = .ok (.ireturn, 1) := by decide +kernel
theorem dL_law_394 : decode cL_law 394 = .ok (.aload_n 1, 1) := by decide +kernel
theorem dL_law_395 : decode cL_law 395 = .ok (.aload_n 0, 1) := by decide +kernel
theorem dL_law_396 : decode cL_law 396 = .ok (.iload_n 3, 1) := by decide +kernel
theorem dL_law_397 : decode cL_law 397 = .ok (.iconst 1, 1) := by decide +kernel
theorem dL_law_398 : decode cL_law 398 = .ok (.iadd, 1) := by decide +kernel
theorem dL_law_399 : decode cL_law 399 = .ok (.iaload, 1) := by decide +kernel
theorem dL_law_400 : decode cL_law 400 = .ok (.invokevirtual 57, 3) := by decide +kernel
theorem dL_law_403 : decode cL_law 403 = .ok (.aload_n 2, 1) := by decide +kernel
theorem dL_law_404 : decode cL_law 404 = .ok (.aload_n 0, 1) := by decide +kernel
theorem dL_law_405 : decode cL_law 405 = .ok (.iload_n 3, 1) := by decide +kernel
theorem dL_law_406 : decode cL_law 406 = .ok (.iconst 1, 1) := by decide +kernel
theorem dL_law_407 : decode cL_law 407 = .ok (.iadd, 1) := by decide +kernel
theorem dL_law_408 : decode cL_law 408 = .ok (.iaload, 1) := by decide +kernel
theorem dL_law_409 : decode cL_law 409 = .ok (.invokevirtual 60, 3) := by decide +kernel
theorem dL_law_412 : decode cL_law 412 = .ok (.if_icmp .eq 189, 3) := by decide +kernel
theorem dL_law_415 : decode cL_law 415 = .ok (.iconst 0, 1) := by decide +kernel
theorem dL_law_416 : decode cL_law 416 = .ok (.ireturn, 1) := by decide +kernel
theorem dL_law_417 : decode cL_law 417 = .ok (.aload_n 1, 1) := by decide +kernel
theorem dL_law_418 : decode cL_law 418 = .ok (.aload_n 0, 1) := by decide +kernel
theorem dL_law_419 : decode cL_law 419 = .ok (.iload_n 3, 1) := by decide +kernel
theorem dL_law_420 : decode cL_law 420 = .ok (.iconst 1, 1) := by decide +kernel
theorem dL_law_421 : decode cL_law 421 = .ok (.iadd, 1) := by decide +kernel
theorem dL_law_422 : decode cL_law 422 = .ok (.iaload, 1) := by decide +kernel
theorem dL_law_423 : decode cL_law 423 = .ok (.invokevirtual 61, 3) := by decide +kernel
theorem dL_law_426 : decode cL_law 426 = .ok (.aload_n 2, 1) := by decide +kernel
theorem dL_law_427 : decode cL_law 427 = .ok (.aload_n 0, 1) := by decide +kernel
theorem dL_law_428 : decode cL_law 428 = .ok (.iload_n 3, 1) := by decide +kernel
theorem dL_law_429 : decode cL_law 429 = .ok (.iconst 1, 1) := by decide +kernel
theorem dL_law_430 : decode cL_law 430 = .ok (.iadd, 1) := by decide +kernel
theorem dL_law_431 : decode cL_law 431 = .ok (.iaload, 1) := by decide +kernel
theorem dL_law_432 : decode cL_law 432 = .ok (.invokevirtual 64, 3) := by decide +kernel
theorem dL_law_435 : decode cL_law 435 = .ok (.if_icmp .eq 166, 3) := by decide +kernel
theorem dL_law_438 : decode cL_law 438 = .ok (.iconst 0, 1) := by decide +kernel
theorem dL_law_439 : decode cL_law 439 = .ok (.ireturn, 1) := by decide +kernel
theorem dL_law_440 : decode cL_law 440 = .ok (.aload_n 1, 1) := by decide +kernel
theorem dL_law_441 : decode cL_law 441 = .ok (.aload_n 0, 1) := by decide +kernel
theorem dL_law_442 : decode cL_law 442 = .ok (.iload_n 3, 1) := by decide +kernel
theorem dL_law_443 : decode cL_law 443 = .ok (.iconst 1, 1) := by decide +kernel
theorem dL_law_444 : decode cL_law 444 = .ok (.iadd, 1) := by decide +kernel
theorem dL_law_445 : decode cL_law 445 = .ok (.iaload, 1) := by decide +kernel
theorem dL_law_446 : decode cL_law 446 = .ok (.invokevirtual 65, 3) := by decide +kernel
theorem dL_law_449 : decode cL_law 449 = .ok (.aload_n 2, 1) := by decide +kernel
theorem dL_law_450 : decode cL_law 450 = .ok (.aload_n 0, 1) := by decide +kernel
theorem dL_law_451 : decode cL_law 451 = .ok (.iload_n 3, 1) := by decide +kernel
theorem dL_law_452 : decode cL_law 452 = .ok (.iconst 1, 1) := by decide +kernel
theorem dL_law_453 : decode cL_law 453 = .ok (.iadd, 1) := by decide +kernel
theorem dL_law_454 : decode cL_law 454 = .ok (.iaload, 1) := by decide +kernel
theorem dL_law_455 : decode cL_law 455 = .ok (.invokevirtual 68, 3) := by decide +kernel
theorem dL_law_458 : decode cL_law 458 = .ok (.if_icmp .eq 143, 3) := by decide +kernel
theorem dL_law_461 : decode cL_law 461 = .ok (.iconst 0, 1) := by decide +kernel
theorem dL_law_462 : decode cL_law 462 = .ok (.ireturn, 1) := by decide +kernel
theorem dL_law_463 : decode cL_law 463 = .ok (.aload_n 1, 1) := by decide +kernel
theorem dL_law_464 : decode cL_law 464 = .ok (.aload_n 0, 1) := by decide +kernel
theorem dL_law_465 : decode cL_law 465 = .ok (.iload_n 3, 1) := by decide +kernel
theorem dL_law_466 : decode cL_law 466 = .ok (.iconst 1, 1) := by decide +kernel
theorem dL_law_467 : decode cL_law 467 = .ok (.iadd, 1) := by decide +kernel
theorem dL_law_468 : decode cL_law 468 = .ok (.iaload, 1) := by decide +kernel
theorem dL_law_469 : decode cL_law 469 = .ok (.invokevirtual 69, 3) := by decide +kernel
theorem dL_law_472 : decode cL_law 472 = .ok (.aload_n 2, 1) := by decide +kernel
theorem dL_law_473 : decode cL_law 473 = .ok (.aload_n 0, 1) := by decide +kernel
theorem dL_law_474 : decode cL_law 474 = .ok (.iload_n 3, 1) := by decide +kernel
theorem dL_law_475 : decode cL_law 475 = .ok (.iconst 1, 1) := by decide +kernel
theorem dL_law_476 : decode cL_law 476 = .ok (.iadd, 1) := by decide +kernel
theorem dL_law_477 : decode cL_law 477 = .ok (.iaload, 1) := by decide +kernel
theorem dL_law_478 : decode cL_law 478 = .ok (.invokevirtual 72, 3) := by decide +kernel
theorem dL_law_481 : decode cL_law 481 = .ok (.if_icmp .eq 120, 3) := by decide +kernel
theorem dL_law_484 : decode cL_law 484 = .ok (.iconst 0, 1) := by decide +kernel
theorem dL_law_485 : decode cL_law 485 = .ok (.ireturn, 1) := by decide +kernel
theorem dL_law_486 : decode cL_law 486 = .ok (.aload_n 1, 1) := by decide +kernel
theorem dL_law_487 : decode cL_law 487 = .ok (.aload_n 0, 1) := by decide +kernel
theorem dL_law_488 : decode cL_law 488 = .ok (.iload_n 3, 1) := by decide +kernel
theorem dL_law_489 : decode cL_law 489 = .ok (.iconst 1, 1) := by decide +kernel
theorem dL_law_490 : decode cL_law 490 = .ok (.iadd, 1) := by decide +kernel
theorem dL_law_491 : decode cL_law 491 = .ok (.iaload, 1) := by decide +kernel
theorem dL_law_492 : decode cL_law 492 = .ok (.invokevirtual 73, 3) := by decide +kernel
theorem dL_law_495 : decode cL_law 495 = .ok (.aload_n 2, 1) := by decide +kernel
theorem dL_law_496 : decode cL_law 496 = .ok (.aload_n 0, 1) := by decide +kernel
theorem dL_law_497 : decode cL_law 497 = .ok (.iload_n 3, 1) := by decide +kernel
theorem dL_law_498 : decode cL_law 498 = .ok (.iconst 1, 1) := by decide +kernel
theorem dL_law_499 : decode cL_law 499 = .ok (.iadd, 1) := by decide +kernel
theorem dL_law_500 : decode cL_law 500 = .ok (.iaload, 1) := by decide +kernel
theorem dL_law_501 : decode cL_law 501 = .ok (.invokevirtual 76, 3) := by decide +kernel
theorem dL_law_504 : decode cL_law 504 = .ok (.if_icmp .eq 97, 3) := by decide +kernel
theorem dL_law_507 : decode cL_law 507 = .ok (.iconst 0, 1) := by decide +kernel
theorem dL_law_508 : decode cL_law 508 = .ok (.ireturn, 1) := by decide +kernel
theorem dL_law_509 : decode cL_law 509 = .ok (.aload_n 1, 1) := by decide +kernel
theorem dL_law_510 : decode cL_law 510 = .ok (.aload_n 0, 1) := by decide +kernel
theorem dL_law_511 : decode cL_law 511 = .ok (.iload_n 3, 1) := by decide +kernel
theorem dL_law_512 : decode cL_law 512 = .ok (.iconst 1, 1) := by decide +kernel
theorem dL_law_513 : decode cL_law 513 = .ok (.iadd, 1) := by decide +kernel
theorem dL_law_514 : decode cL_law 514 = .ok (.iaload, 1) := by decide +kernel
theorem dL_law_515 : decode cL_law 515 = .ok (.invokevirtual 77, 3) := by decide +kernel
theorem dL_law_518 : decode cL_law 518 = .ok (.aload_n 2, 1) := by decide +kernel
theorem dL_law_519 : decode cL_law 519 = .ok (.aload_n 0, 1) := by decide +kernel
theorem dL_law_520 : decode cL_law 520 = .ok (.iload_n 3, 1) := by decide +kernel
theorem dL_law_521 : decode cL_law 521 = .ok (.iconst 1, 1) := by decide +kernel
theorem dL_law_522 : decode cL_law 522 = .ok (.iadd, 1) := by decide +kernel
theorem dL_law_523 : decode cL_law 523 = .ok (.iaload, 1) := by decide +kernel
theorem dL_law_524 : decode cL_law 524 = .ok (.invokevirtual 80, 3) := by decide +kernel
theorem dL_law_527 : decode cL_law 527 = .ok (.if_icmp .eq 74, 3) := by decide +kernel
theorem dL_law_530 : decode cL_law 530 = .ok (.iconst 0, 1) := by decide +kernel
theorem dL_law_531 : decode cL_law 531 = .ok (.ireturn, 1) := by decide +kernel
theorem dL_law_532 : decode cL_law 532 = .ok (.aload_n 1, 1) := by decide +kernel
theorem dL_law_533 : decode cL_law 533 = .ok (.aload_n 0, 1) := by decide +kernel
theorem dL_law_534 : decode cL_law 534 = .ok (.iload_n 3, 1) := by decide +kernel
theorem dL_law_535 : decode cL_law 535 = .ok (.iconst 1, 1) := by decide +kernel
theorem dL_law_536 : decode cL_law 536 = .ok (.iadd, 1) := by decide +kernel
theorem dL_law_537 : decode cL_law 537 = .ok (.iaload, 1) := by decide +kernel
theorem dL_law_538 : decode cL_law 538 = .ok (.invokevirtual 81, 3) := by decide +kernel
theorem dL_law_541 : decode cL_law 541 = .ok (.aload_n 2, 1) := by decide +kernel
theorem dL_law_542 : decode cL_law 542 = .ok (.aload_n 0, 1) := by decide +kernel
theorem dL_law_543 : decode cL_law 543 = .ok (.iload_n 3, 1) := by decide +kernel
theorem dL_law_544 : decode cL_law 544 = .ok (.iconst 1, 1) := by decide +kernel
theorem dL_law_545 : decode cL_law 545 = .ok (.iadd, 1) := by decide +kernel
theorem dL_law_546 : decode cL_law 546 = .ok (.iaload, 1) := by decide +kernel
theorem dL_law_547 : decode cL_law 547 = .ok (.invokevirtual 84, 3) := by decide +kernel
theorem dL_law_550 : decode cL_law 550 = .ok (.if_icmp .eq 51, 3) := by decide +kernel
theorem dL_law_553 : decode cL_law 553 = .ok (.iconst 0, 1) := by decide +kernel
theorem dL_law_554 : decode cL_law 554 = .ok (.ireturn, 1) := by decide +kernel
theorem dL_law_555 : decode cL_law 555 = .ok (.aload_n 1, 1) := by decide +kernel
theorem dL_law_556 : decode cL_law 556 = .ok (.aload_n 0, 1) := by decide +kernel
theorem dL_law_557 : decode cL_law 557 = .ok (.iload_n 3, 1) := by decide +kernel
theorem dL_law_558 : decode cL_law 558 = .ok (.iconst 1, 1) := by decide +kernel
theorem dL_law_559 : decode cL_law 559 = .ok (.iadd, 1) := by decide +kernel
theorem dL_law_560 : decode cL_law 560 = .ok (.iaload, 1) := by decide +kernel
theorem dL_law_561 : decode cL_law 561 = .ok (.invokevirtual 85, 3) := by decide +kernel
theorem dL_law_564 : decode cL_law 564 = .ok (.aload_n 2, 1) := by decide +kernel
theorem dL_law_565 : decode cL_law 565 = .ok (.aload_n 0, 1) := by decide +kernel
theorem dL_law_566 : decode cL_law 566 = .ok (.iload_n 3, 1) := by decide +kernel
theorem dL_law_567 : decode cL_law 567 = .ok (.iconst 1, 1) := by decide +kernel
theorem dL_law_568 : decode cL_law 568 = .ok (.iadd, 1) := by decide +kernel
theorem dL_law_569 : decode cL_law 569 = .ok (.iaload, 1) := by decide +kernel
theorem dL_law_570 : decode cL_law 570 = .ok (.invokevirtual 88, 3) := by decide +kernel
theorem dL_law_573 : decode cL_law 573 = .ok (.if_icmp .eq 28, 3) := by decide +kernel
theorem dL_law_576 : decode cL_law 576 = .ok (.iconst 0, 1) := by decide +kernel
theorem dL_law_577 : decode cL_law 577 = .ok (.ireturn, 1) := by decide +kernel
theorem dL_law_578 : decode cL_law 578 = .ok (.aload_n 1, 1) := by decide +kernel
theorem dL_law_579 : decode cL_law 579 = .ok (.aload_n 0, 1) := by decide +kernel
theorem dL_law_580 : decode cL_law 580 = .ok (.iload_n 3, 1) := by decide +kernel
theorem dL_law_581 : decode cL_law 581 = .ok (.iconst 1, 1) := by decide +kernel
theorem dL_law_582 : decode cL_law 582 = .ok (.iadd, 1) := by decide +kernel
theorem dL_law_583 : decode cL_law 583 = .ok (.iaload, 1) := by decide +kernel
theorem dL_law_584 : decode cL_law 584 = .ok (.invokevirtual 89, 3) := by decide +kernel
theorem dL_law_587 : decode cL_law 587 = .ok (.aload_n 2, 1) := by decide +kernel
theorem dL_law_588 : decode cL_law 588 = .ok (.aload_n 0, 1) := by decide +kernel
theorem dL_law_589 : decode cL_law 589 = .ok (.iload_n 3, 1) := by decide +kernel
theorem dL_law_590 : decode cL_law 590 = .ok (.iconst 1, 1) := by decide +kernel
theorem dL_law_591 : decode cL_law 591 = .ok (.iadd, 1) := by decide +kernel
theorem dL_law_592 : decode cL_law 592 = .ok (.iaload, 1) := by decide +kernel
theorem dL_law_593 : decode cL_law 593 = .ok (.invokevirtual 92, 3) := by decide +kernel
theorem dL_law_596 : decode cL_law 596 = .ok (.if_icmp .eq 5, 3) := by decide +kernel
theorem dL_law_599 : decode cL_law 599 = .ok (.iconst 0, 1) := by decide +kernel
theorem dL_law_600 : decode cL_law 600 = .ok (.ireturn, 1) := by decide +kernel
theorem dL_law_601 : decode cL_law 601 = .ok (.iinc 3 4, 3) := by decide +kernel
theorem dL_law_604 : decode cL_law 604 = .ok (.goto (-586), 3) := by decide +kernel
theorem dL_law_607 : decode cL_law 607 = .ok (.iconst 1, 1) := by decide +kernel
theorem dL_law_608 : decode cL_law 608 = .ok (.ireturn, 1) := by decide +kernel

set_option maxRecDepth 20000 in
theorem ggL_law_X9_init : GoodIn wsL_law wsX9_init := goodIn_r _ [8, 9, 10, 11, 12, 13, 14, 15, 16, 17, 18, 19, 20, 21, 22, 23, 24, 25, 26, 27, 28, 29, 30, 31, 32, 33, 34, 35, 36, 37, 38, 39, 40, 41, 42, 43, 44, 45, 46, 47, 48, 49, 50, 51, 52, 53, 54, 55, 56, 57, 58, 59, 60, 61, 62, 63, 64, 65, 66, 67, 68, 69, 70, 71, 72, 73, 74, 75, 76, 77, 78, 79, 80, 81, 82, 83, 84, 85, 86, 87, 88, 89, 886, 887, 888, 889, 890, 891, 859, 860, 861, 862, 863, 864, 865, 866, 892, 893, 894, 895, 896, 897, 898, 899, 900, 901, 902, 903, 904, 905, 906, 907, 908, 909, 910, 911, 912, 913, 914, 915, 916, 917, 918] (by decide +kernel) (by decide +kernel)
set_option maxRecDepth 20000 in
theorem gL_law_X9_init : GoodIn wsL_law (wsX9_init) := ggL_law_X9_init
set_option maxRecDepth 20000 in
theorem ggL_law_X10_init : GoodIn wsL_law wsX10_init := goodIn_r _ [92, 93, 10, 11, 50, 94, 95, 96, 97, 98, 99, 100, 101, 102, 72, 103, 104, 867, 868, 869, 870, 871, 872, 873, 874, 875, 876, 877, 878, 879, 880, 881, 882, 883, 884, 885] (by decide +kernel) (by decide +kernel)
set_option maxRecDepth 20000 in
theorem gL_law_X10_init : GoodIn wsL_law (wsX10_init) := ggL_law_X10_init
set_option maxRecDepth 20000 in
theorem ggL_law_X9_monk : GoodIn wsL_law wsX9_monk := goodIn_r _ [108, 15, 109, 110, 111, 112, 2, 113, 114, 115, 116, 117, 118, 119, 14, 120, 121, 122, 51, 52, 123, 124, 125, 126, 127, 128, 129, 859, 860, 861, 862, 863, 864, 865, 866, 886, 887, 888, 889, 890, 891] (by decide +kernel) (by decide +kernel)
set_option maxRecDepth 20000 in
theorem gL_law_X9_monk : GoodIn wsL_law (wsV RL 13 RX9 yX9_monk wsX9_monk) := goodIn_app (goodIn_of _ (by decide +kernel)) ggL_law_X9_monk
set_option maxRecDepth 20000 in
theorem ggL_law_X10_monk : GoodIn wsL_law wsX10_monk := goodIn_r _ [133, 97, 104, 134, 94, 95, 135, 136, 5, 137, 138, 139, 140, 867, 868, 869, 870, 871, 872, 873, 874, 875, 876, 877, 878, 879, 880, 881, 882, 883, 884, 885] (by decide +kernel) (by decide +kernel)
set_option maxRecDepth 20000 in
theorem gL_law_X10_monk : GoodIn wsL_law (wsV RL 17 RX10 yX10_monk wsX10_monk) := goodIn_app (goodIn_of _ (by decide +kernel)) ggL_law_X10_monk
set_option maxRecDepth 20000 in
theorem ggL_law_X9_leave : GoodIn wsL_law wsX9_leave := goodIn_r _ [144, 15, 110, 145, 146, 147, 14, 148, 121, 149, 150, 151, 152, 122, 123, 124, 125, 126, 127, 128, 129, 859, 860, 861, 862, 863, 864, 865, 866, 886, 887, 888, 889, 890, 891] (by decide +kernel) (by decide +kernel)
set_option maxRecDepth 20000 in
theorem gL_law_X9_leave : GoodIn wsL_law (wsV RL 18 RX9 yX9_leave wsX9_leave) := goodIn_app (goodIn_of _ (by decide +kernel)) ggL_law_X9_leave
set_option maxRecDepth 20000 in
theorem ggL_law_X10_leave : GoodIn wsL_law wsX10_leave := goodIn_r _ [156, 104, 134, 157, 158, 159, 5, 160, 135, 136, 137, 161, 162, 163, 138, 139, 140, 867, 868, 869, 870, 871, 872, 873, 874, 875, 876, 877, 878, 879, 880, 881, 882, 883, 884, 885] (by decide +kernel) (by decide +kernel)
set_option maxRecDepth 20000 in
theorem gL_law_X10_leave : GoodIn wsL_law (wsV RL 22 RX10 yX10_leave wsX10_leave) := goodIn_app (goodIn_of _ (by decide +kernel)) ggL_law_X10_leave
set_option maxRecDepth 20000 in
theorem ggL_law_X9_set : GoodIn wsL_law wsX9_set := goodIn_r _ [167, 168, 169, 170, 2, 171, 172, 15, 110, 109, 114, 115, 116, 173, 174, 175, 14, 176, 51, 177, 178, 179, 180, 181, 182, 183, 184, 185, 859, 860, 861, 862, 863, 864, 865, 866, 886, 887, 888, 889, 890, 891] (by decide +kernel) (by decide +kernel)
set_option maxRecDepth 20000 in
theorem gL_law_X9_set : GoodIn wsL_law (wsV RL 23 RX9 yX9_set wsX9_set) := goodIn_app (goodIn_of _ (by decide +kernel)) ggL_law_X9_set
set_option maxRecDepth 20000 in
theorem ggL_law_X10_set : GoodIn wsL_law wsX10_set := goodIn_r _ [189, 96, 104, 94, 97, 98, 135, 136, 5, 137, 161, 162, 163, 867, 868, 869, 870, 871, 872, 873, 874, 875, 876, 877, 878, 879, 880, 881, 882, 883, 884, 885] (by decide +kernel) (by decide +kernel)
set_option maxRecDepth 20000 in
theorem gL_law_X10_set : GoodIn wsL_law (wsV RL 27 RX10 yX10_set wsX10_set) := goodIn_app (goodIn_of _ (by decide +kernel)) ggL_law_X10_set
set_option maxRecDepth 20000 in
theorem ggL_law_X9_say : GoodIn wsL_law wsX9_say := goodIn_r _ [193, 19, 194, 114, 115, 2, 116, 195, 196, 197, 18, 198, 199, 56, 859, 860, 861, 862, 863, 864, 865, 866, 892, 893, 894, 895, 896] (by decide +kernel) (by decide +kernel)
set_option maxRecDepth 20000 in
theorem gL_law_X9_say : GoodIn wsL_law (wsV RL 28 RX9 yX9_say wsX9_say) := goodIn_app (goodIn_of _ (by decide +kernel)) ggL_law_X9_say
set_option maxRecDepth 20000 in
theorem ggL_law_X10_say : GoodIn wsL_law wsX10_say := goodIn_r _ [203, 204, 100, 135, 136, 5, 137, 867, 868, 869, 870, 871, 872, 873, 874, 875, 876, 877, 878, 879, 880, 881, 882, 883, 884, 885] (by decide +kernel) (by decide +kernel)
set_option maxRecDepth 20000 in
theorem gL_law_X10_say : GoodIn wsL_law (wsV RL 31 RX10 yX10_say wsX10_say) := goodIn_app (goodIn_of _ (by decide +kernel)) ggL_law_X10_say
set_option maxRecDepth 20000 in
theorem ggL_law_X9_wipe : GoodIn wsL_law wsX9_wipe := goodIn_r _ [208, 19, 194, 859, 860, 861, 862, 863, 864, 865, 866, 892, 893, 894, 895, 896] (by decide +kernel) (by decide +kernel)
set_option maxRecDepth 20000 in
theorem gL_law_X9_wipe : GoodIn wsL_law (wsV RL 32 RX9 yX9_wipe wsX9_wipe) := goodIn_app (goodIn_of _ (by decide +kernel)) ggL_law_X9_wipe
set_option maxRecDepth 20000 in
theorem ggL_law_X10_wipe : GoodIn wsL_law wsX10_wipe := goodIn_r _ [212, 204, 867, 868, 869, 870, 871, 872, 873, 874, 875, 876, 877, 878, 879, 880, 881, 882, 883, 884, 885] (by decide +kernel) (by decide +kernel)
set_option maxRecDepth 20000 in
theorem gL_law_X10_wipe : GoodIn wsL_law (wsV RL 36 RX10 yX10_wipe wsX10_wipe) := goodIn_app (goodIn_of _ (by decide +kernel)) ggL_law_X10_wipe
set_option maxRecDepth 20000 in
theorem ggL_law_X9_fault : GoodIn wsL_law wsX9_fault := goodIn_r _ [216, 19, 217, 218, 219, 18, 220, 221, 199, 56, 222, 223, 224, 225, 226, 227, 228, 57, 58, 229, 230, 231, 112, 2, 113, 232, 233, 234, 859, 860, 861, 862, 863, 864, 865, 866, 892, 893, 894, 895, 896] (by decide +kernel) (by decide +kernel)
set_option maxRecDepth 20000 in
theorem gL_law_X9_fault : GoodIn wsL_law (wsV RL 37 RX9 yX9_fault wsX9_fault) := goodIn_app (goodIn_of _ (by decide +kernel)) ggL_law_X9_fault
set_option maxRecDepth 20000 in
theorem ggL_law_X10_fault : GoodIn wsL_law wsX10_fault := goodIn_r _ [238, 239, 240, 241, 5, 242, 204, 100, 243, 244, 245, 135, 136, 137, 867, 868, 869, 870, 871, 872, 873, 874, 875, 876, 877, 878, 879, 880, 881, 882, 883, 884, 885] (by decide +kernel) (by decide +kernel)
set_option maxRecDepth 20000 in
theorem gL_law_X10_fault : GoodIn wsL_law (wsV RL 40 RX10 yX10_fault wsX10_fault) := goodIn_app (goodIn_of _ (by decide +kernel)) ggL_law_X10_fault
set_option maxRecDepth 20000 in
theorem ggL_law_X9_judge : GoodIn wsL_law wsX9_judge := goodIn_r _ [249, 23, 19, 15, 250, 251, 252, 114, 115, 2, 116, 253, 254, 255, 22, 256, 257, 258, 259, 260, 261, 262, 218, 219, 18, 220, 221, 199, 56, 222, 223, 224, 225, 226, 227, 228, 57, 58, 229, 230, 231, 112, 113, 232, 233, 234, 263, 264, 265, 266, 63, 267, 268, 269, 270, 271, 272, 273, 14, 274, 121, 122, 48, 49, 51, 275, 276, 277, 278, 52, 279, 280, 281, 282, 283, 146, 147, 148, 284, 285, 286, 287, 288, 289, 290, 291, 292, 293, 294, 295, 296, 297, 298, 299, 300, 301, 302, 303, 304, 305, 306, 307, 308, 309, 310, 311, 312, 313, 177, 178, 179, 180, 314, 315, 316, 317, 318, 319, 320, 321, 322, 323, 324, 325, 326, 327, 328, 329, 330, 331, 332, 333, 334, 335, 336, 337, 338, 339, 340, 341, 342, 343, 344, 345, 346, 347, 348, 349, 350, 174, 175, 176, 859, 860, 861, 862, 863, 864, 865, 866, 897, 898, 899, 900, 901, 902, 903, 892, 893, 894, 895, 896, 886, 887, 888, 889, 890, 891] (by decide +kernel) (by decide +kernel)
set_option maxRecDepth 20000 in
theorem gL_law_X9_judge : GoodIn wsL_law (wsV RL 41 RX9 yX9_judge wsX9_judge) := goodIn_app (goodIn_of _ (by decide +kernel)) ggL_law_X9_judge
set_option maxRecDepth 20000 in
theorem ggL_law_X10_judge : GoodIn wsL_law wsX10_judge := goodIn_r _ [354, 355, 135, 136, 5, 137, 239, 240, 241, 242, 204, 100, 243, 244, 245, 356, 357, 358, 359, 360, 361, 362, 363, 364, 101, 97, 98, 365, 366, 367, 368, 134, 94, 369, 370, 371, 372, 104, 161, 162, 163, 373, 374, 375, 376, 157, 158, 159, 160, 377, 378, 379, 380, 381, 382, 383, 384, 385, 386, 387, 388, 389, 390, 391, 392, 393, 394, 395, 396, 397, 398, 399, 400, 401, 95, 402, 403, 404, 405, 406, 407, 408, 409, 410, 411, 412, 413, 867, 868, 869, 870, 871, 872, 873, 874, 875, 876, 877, 878, 879, 880, 881, 882, 883, 884, 885] (by decide +kernel) (by decide +kernel)
set_option maxRecDepth 20000 in
theorem gL_law_X10_judge : GoodIn wsL_law (wsV RL 44 RX10 yX10_judge wsX10_judge) := goodIn_app (goodIn_of _ (by decide +kernel)) ggL_law_X10_judge
set_option maxRecDepth 20000 in
theorem ggL_law_X9_done : GoodIn wsL_law wsX9_done := goodIn_r _ [417, 23, 19, 15, 418, 194, 419, 253, 254, 255, 22, 256, 257, 258, 259, 260, 261, 262, 218, 219, 18, 220, 221, 199, 56, 222, 223, 224, 225, 226, 227, 228, 57, 58, 229, 230, 231, 112, 2, 113, 232, 233, 234, 263, 264, 265, 266, 63, 267, 268, 269, 270, 271, 272, 273, 14, 274, 121, 122, 48, 49, 51, 275, 276, 277, 278, 52, 279, 280, 281, 282, 283, 146, 147, 148, 284, 285, 286, 287, 288, 289, 290, 291, 292, 293, 294, 295, 296, 297, 298, 299, 300, 301, 302, 303, 304, 305, 306, 307, 308, 309, 310, 311, 312, 313, 177, 178, 179, 180, 314, 315, 316, 317, 318, 319, 320, 321, 322, 323, 324, 325, 326, 327, 328, 329, 330, 331, 332, 333, 334, 335, 336, 337, 338, 339, 340, 341, 342, 343, 344, 345, 346, 347, 348, 349, 350, 174, 175, 176, 420, 859, 860, 861, 862, 863, 864, 865, 866, 897, 898, 899, 900, 901, 902, 903, 892, 893, 894, 895, 896, 886, 887, 888, 889, 890, 891] (by decide +kernel) (by decide +kernel)
set_option maxRecDepth 20000 in
theorem gL_law_X9_done : GoodIn wsL_law (wsV RL 45 RX9 yX9_done wsX9_done) := goodIn_app (goodIn_of _ (by decide +kernel)) ggL_law_X9_done
set_option maxRecDepth 20000 in
theorem ggL_law_X10_done : GoodIn wsL_law wsX10_done := goodIn_r _ [424, 364, 134, 94, 101, 204, 360, 425, 426, 427, 5, 428, 239, 240, 241, 242, 100, 243, 244, 245, 135, 136, 137, 356, 357, 358, 359, 361, 362, 363, 355, 97, 98, 365, 366, 367, 368, 369, 370, 371, 372, 104, 161, 162, 163, 373, 374, 375, 376, 157, 158, 159, 160, 377, 378, 379, 380, 381, 382, 383, 384, 385, 386, 387, 388, 389, 390, 391, 392, 393, 394, 395, 396, 397, 398, 399, 400, 401, 95, 402, 403, 404, 405, 406, 407, 408, 409, 410, 411, 412, 413, 867, 868, 869, 870, 871, 872, 873, 874, 875, 876, 877, 878, 879, 880, 881, 882, 883, 884, 885] (by decide +kernel) (by decide +kernel)
set_option maxRecDepth 20000 in
theorem gL_law_X10_done : GoodIn wsL_law (wsV RL 48 RX10 yX10_done wsX10_done) := goodIn_app (goodIn_of _ (by decide +kernel)) ggL_law_X10_done
set_option maxRecDepth 20000 in
theorem ggL_law_X9_state : GoodIn wsL_law wsX9_state := goodIn_r _ [432, 15, 145, 146, 147, 14, 148, 121, 114, 115, 2, 116, 433, 434, 435, 436, 51, 298, 299, 300, 301, 122, 859, 860, 861, 862, 863, 864, 865, 866, 886, 887, 888, 889, 890, 891] (by decide +kernel) (by decide +kernel)
set_option maxRecDepth 20000 in
theorem gL_law_X9_state : GoodIn wsL_law (wsV RL 49 RX9 yX9_state wsX9_state) := goodIn_app (goodIn_of _ (by decide +kernel)) ggL_law_X9_state
set_option maxRecDepth 20000 in
theorem ggL_law_X10_state : GoodIn wsL_law wsX10_state := goodIn_r _ [440, 94, 134, 157, 158, 159, 5, 160, 104, 135, 136, 137, 161, 162, 163, 867, 868, 869, 870, 871, 872, 873, 874, 875, 876, 877, 878, 879, 880, 881, 882, 883, 884, 885] (by decide +kernel) (by decide +kernel)
set_option maxRecDepth 20000 in
theorem gL_law_X10_state : GoodIn wsL_law (wsV RL 52 RX10 yX10_state wsX10_state) := goodIn_app (goodIn_of _ (by decide +kernel)) ggL_law_X10_state
set_option maxRecDepth 20000 in
theorem ggL_law_X9_behind : GoodIn wsL_law wsX9_behind := goodIn_r _ [444, 15, 23, 19, 418, 145, 146, 147, 14, 148, 121, 114, 115, 2, 116, 253, 254, 255, 22, 256, 257, 258, 259, 260, 261, 262, 218, 219, 18, 220, 221, 199, 56, 222, 223, 224, 225, 226, 227, 228, 57, 58, 229, 230, 231, 112, 113, 232, 233, 234, 263, 264, 265, 266, 63, 267, 268, 269, 270, 271, 272, 273, 274, 122, 48, 49, 51, 275, 276, 277, 278, 52, 279, 280, 281, 282, 283, 284, 285, 286, 287, 288, 289, 290, 291, 292, 293, 294, 295, 296, 297, 298, 299, 300, 301, 302, 303, 304, 305, 306, 307, 308, 309, 310, 311, 312, 313, 177, 178, 179, 180, 314, 315, 316, 317, 318, 319, 320, 321, 322, 323, 324, 325, 326, 327, 328, 329, 330, 331, 332, 333, 334, 335, 336, 337, 338, 339, 340, 341, 342, 343, 344, 345, 346, 347, 348, 349, 350, 174, 175, 176, 433, 434, 435, 436, 859, 860, 861, 862, 863, 864, 865, 866, 897, 898, 899, 900, 901, 902, 903, 886, 887, 888, 889, 890, 891, 892, 893, 894, 895, 896] (by decide +kernel) (by decide +kernel)
set_option maxRecDepth 20000 in
theorem gL_law_X9_behind : GoodIn wsL_law (wsV RL 53 RX9 yX9_behind wsX9_behind) := goodIn_app (goodIn_of _ (by decide +kernel)) ggL_law_X9_behind
set_option maxRecDepth 20000 in
theorem ggL_law_X10_behind : GoodIn wsL_law wsX10_behind := goodIn_r _ [448, 101, 364, 157, 158, 159, 5, 160, 104, 135, 136, 137, 161, 162, 163, 425, 426, 427, 428, 239, 240, 241, 242, 204, 100, 243, 244, 245, 356, 357, 358, 359, 360, 361, 362, 363, 355, 97, 98, 365, 366, 367, 368, 134, 94, 369, 370, 371, 372, 373, 374, 375, 376, 377, 378, 379, 380, 381, 382, 383, 384, 385, 386, 387, 388, 389, 390, 391, 392, 393, 394, 395, 396, 397, 398, 399, 400, 401, 95, 402, 403, 404, 405, 406, 407, 408, 409, 410, 411, 412, 413, 867, 868, 869, 870, 871, 872, 873, 874, 875, 876, 877, 878, 879, 880, 881, 882, 883, 884, 885] (by decide +kernel) (by decide +kernel)
set_option maxRecDepth 20000 in
theorem gL_law_X10_behind : GoodIn wsL_law (wsV RL 56 RX10 yX10_behind wsX10_behind) := goodIn_app (goodIn_of _ (by decide +kernel)) ggL_law_X10_behind
set_option maxRecDepth 20000 in
theorem ggL_law_X9_breaths : GoodIn wsL_law wsX9_breaths := goodIn_r _ [452, 23, 19, 15, 453, 454, 114, 115, 2, 116, 253, 254, 255, 22, 256, 257, 258, 259, 260, 261, 262, 218, 219, 18, 220, 221, 199, 56, 222, 223, 224, 225, 226, 227, 228, 57, 58, 229, 230, 231, 112, 113, 232, 233, 234, 263, 264, 265, 266, 63, 267, 268, 269, 270, 271, 272, 273, 14, 274, 121, 122, 48, 49, 51, 275, 276, 277, 278, 52, 279, 280, 281, 282, 283, 146, 147, 148, 284, 285, 286, 287, 288, 289, 290, 291, 292, 293, 294, 295, 296, 297, 298, 299, 300, 301, 302, 303, 304, 305, 306, 307, 308, 309, 310, 311, 312, 313, 177, 178, 179, 180, 314, 315, 316, 317, 318, 319, 320, 321, 322, 323, 324, 325, 326, 327, 328, 329, 330, 331, 332, 333, 334, 335, 336, 337, 338, 339, 340, 341, 342, 343, 344, 345, 346, 347, 348, 349, 350, 174, 175, 176, 859, 860, 861, 862, 863, 864, 865, 866, 897, 898, 899, 900, 901, 902, 903, 892, 893, 894, 895, 896, 886, 887, 888, 889, 890, 891] (by decide +kernel) (by decide +kernel)
set_option maxRecDepth 20000 in
theorem gL_law_X9_breaths : GoodIn wsL_law (wsV RL 57 RX9 yX9_breaths wsX9_breaths) := goodIn_app (goodIn_of _ (by decide +kernel)) ggL_law_X9_breaths
set_option maxRecDepth 20000 in
theorem ggL_law_X10_breaths : GoodIn wsL_law wsX10_breaths := goodIn_r _ [458, 361, 362, 135, 136, 5, 137, 425, 426, 427, 428, 239, 240, 241, 242, 204, 100, 243, 244, 245, 356, 357, 358, 359, 360, 363, 355, 364, 101, 97, 98, 365, 366, 367, 368, 134, 94, 369, 370, 371, 372, 104, 161, 162, 163, 373, 374, 375, 376, 157, 158, 159, 160, 377, 378, 379, 380, 381, 382, 383, 384, 385, 386, 387, 388, 389, 390, 391, 392, 393, 394, 395, 396, 397, 398, 399, 400, 401, 95, 402, 403, 404, 405, 406, 407, 408, 409, 410, 411, 412, 413, 867, 868, 869, 870, 871, 872, 873, 874, 875, 876, 877, 878, 879, 880, 881, 882, 883, 884, 885] (by decide +kernel) (by decide +kernel)
set_option maxRecDepth 20000 in
theorem gL_law_X10_breaths : GoodIn wsL_law (wsV RL 60 RX10 yX10_breaths wsX10_breaths) := goodIn_app (goodIn_of _ (by decide +kernel)) ggL_law_X10_breaths
set_option maxRecDepth 20000 in
theorem ggL_law_X9_noticed : GoodIn wsL_law wsX9_noticed := goodIn_r _ [462, 23, 19, 15, 463, 253, 254, 255, 22, 256, 257, 258, 259, 260, 261, 262, 218, 219, 18, 220, 221, 199, 56, 222, 223, 224, 225, 226, 227, 228, 57, 58, 229, 230, 231, 112, 2, 113, 232, 233, 234, 263, 264, 265, 266, 63, 267, 268, 269, 270, 271, 272, 273, 14, 274, 121, 122, 48, 49, 51, 275, 276, 277, 278, 52, 279, 280, 281, 282, 283, 146, 147, 148, 284, 285, 286, 287, 288, 289, 290, 291, 292, 293, 294, 295, 296, 297, 298, 299, 300, 301, 302, 303, 304, 305, 306, 307, 308, 309, 310, 311, 312, 313, 177, 178, 179, 180, 314, 315, 316, 317, 318, 319, 320, 321, 322, 323, 324, 325, 326, 327, 328, 329, 330, 331, 332, 333, 334, 335, 336, 337, 338, 339, 340, 341, 342, 343, 344, 345, 346, 347, 348, 349, 350, 174, 175, 176, 859, 860, 861, 862, 863, 864, 865, 866, 897, 898, 899, 900, 901, 902, 903, 892, 893, 894, 895, 896, 886, 887, 888, 889, 890, 891] (by decide +kernel) (by decide +kernel)
set_option maxRecDepth 20000 in
theorem gL_law_X9_noticed : GoodIn wsL_law (wsV RL 61 RX9 yX9_noticed wsX9_noticed) := goodIn_app (goodIn_of _ (by decide +kernel)) ggL_law_X9_noticed
set_option maxRecDepth 20000 in
theorem ggL_law_X10_noticed : GoodIn wsL_law wsX10_noticed := goodIn_r _ [467, 363, 425, 426, 427, 5, 428, 239, 240, 241, 242, 204, 100, 243, 244, 245, 135, 136, 137, 356, 357, 358, 359, 360, 361, 362, 355, 364, 101, 97, 98, 365, 366, 367, 368, 134, 94, 369, 370, 371, 372, 104, 161, 162, 163, 373, 374, 375, 376, 157, 158, 159, 160, 377, 378, 379, 380, 381, 382, 383, 384, 385, 386, 387, 388, 389, 390, 391, 392, 393, 394, 395, 396, 397, 398, 399, 400, 401, 95, 402, 403, 404, 405, 406, 407, 408, 409, 410, 411, 412, 413, 867, 868, 869, 870, 871, 872, 873, 874, 875, 876, 877, 878, 879, 880, 881, 882, 883, 884, 885] (by decide +kernel) (by decide +kernel)
set_option maxRecDepth 20000 in
theorem gL_law_X10_noticed : GoodIn wsL_law (wsV RL 64 RX10 yX10_noticed wsX10_noticed) := goodIn_app (goodIn_of _ (by decide +kernel)) ggL_law_X10_noticed
set_option maxRecDepth 20000 in
theorem ggL_law_X9_ahead : GoodIn wsL_law wsX9_ahead := goodIn_r _ [471, 15, 472, 331, 332, 14, 333, 51, 298, 299, 300, 301, 122, 859, 860, 861, 862, 863, 864, 865, 866, 886, 887, 888, 889, 890, 891] (by decide +kernel) (by decide +kernel)
set_option maxRecDepth 20000 in
theorem gL_law_X9_ahead : GoodIn wsL_law (wsV RL 65 RX9 yX9_ahead wsX9_ahead) := goodIn_app (goodIn_of _ (by decide +kernel)) ggL_law_X9_ahead
set_option maxRecDepth 20000 in
theorem ggL_law_X10_ahead : GoodIn wsL_law wsX10_ahead := goodIn_r _ [476, 365, 366, 367, 5, 368, 134, 364, 101, 94, 406, 407, 408, 409, 161, 162, 163, 867, 868, 869, 870, 871, 872, 873, 874, 875, 876, 877, 878, 879, 880, 881, 882, 883, 884, 885] (by decide +kernel) (by decide +kernel)
set_option maxRecDepth 20000 in
theorem gL_law_X10_ahead : GoodIn wsL_law (wsV RL 68 RX10 yX10_ahead wsX10_ahead) := goodIn_app (goodIn_of _ (by decide +kernel)) ggL_law_X10_ahead
set_option maxRecDepth 20000 in
theorem ggL_law_X9_differ : GoodIn wsL_law wsX9_differ := goodIn_r _ [480, 15, 481, 347, 348, 14, 349, 122, 51, 330, 331, 332, 333, 298, 299, 300, 301, 350, 174, 175, 176, 177, 178, 179, 180, 859, 860, 861, 862, 863, 864, 865, 866, 886, 887, 888, 889, 890, 891] (by decide +kernel) (by decide +kernel)
set_option maxRecDepth 20000 in
theorem gL_law_X9_differ : GoodIn wsL_law (wsV RL 69 RX9 yX9_differ wsX9_differ) := goodIn_app (goodIn_of _ (by decide +kernel)) ggL_law_X9_differ
set_option maxRecDepth 20000 in
theorem ggL_law_X10_differ : GoodIn wsL_law wsX10_differ := goodIn_r _ [485, 365, 366, 367, 5, 368, 134, 364, 101, 94, 410, 411, 412, 413, 397, 161, 162, 163, 867, 868, 869, 870, 871, 872, 873, 874, 875, 876, 877, 878, 879, 880, 881, 882, 883, 884, 885] (by decide +kernel) (by decide +kernel)
set_option maxRecDepth 20000 in
theorem gL_law_X10_differ : GoodIn wsL_law (wsV RL 72 RX10 yX10_differ wsX10_differ) := goodIn_app (goodIn_of _ (by decide +kernel)) ggL_law_X10_differ
set_option maxRecDepth 20000 in
theorem ggL_law_X9_alike : GoodIn wsL_law wsX9_alike := goodIn_r _ [489, 15, 490, 491, 492, 14, 493, 51, 298, 299, 300, 301, 122, 859, 860, 861, 862, 863, 864, 865, 866, 886, 887, 888, 889, 890, 891] (by decide +kernel) (by decide +kernel)
set_option maxRecDepth 20000 in
theorem gL_law_X9_alike : GoodIn wsL_law (wsV RL 73 RX9 yX9_alike wsX9_alike) := goodIn_app (goodIn_of _ (by decide +kernel)) ggL_law_X9_alike
set_option maxRecDepth 20000 in
theorem ggL_law_X10_alike : GoodIn wsL_law wsX10_alike := goodIn_r _ [497, 134, 94, 161, 162, 5, 163, 867, 868, 869, 870, 871, 872, 873, 874, 875, 876, 877, 878, 879, 880, 881, 882, 883, 884, 885] (by decide +kernel) (by decide +kernel)
set_option maxRecDepth 20000 in
theorem gL_law_X10_alike : GoodIn wsL_law (wsV RL 76 RX10 yX10_alike wsX10_alike) := goodIn_app (goodIn_of _ (by decide +kernel)) ggL_law_X10_alike
set_option maxRecDepth 20000 in
theorem ggL_law_X9_ends : GoodIn wsL_law wsX9_ends := goodIn_r _ [501, 15, 502, 503, 504, 505, 14, 506, 52, 51, 177, 178, 179, 180, 145, 146, 147, 148, 121, 859, 860, 861, 862, 863, 864, 865, 866, 886, 887, 888, 889, 890, 891] (by decide +kernel) (by decide +kernel)
set_option maxRecDepth 20000 in
theorem gL_law_X9_ends : GoodIn wsL_law (wsV RL 77 RX9 yX9_ends wsX9_ends) := goodIn_app (goodIn_of _ (by decide +kernel)) ggL_law_X9_ends
set_option maxRecDepth 20000 in
theorem ggL_law_X10_ends : GoodIn wsL_law wsX10_ends := goodIn_r _ [510, 134, 157, 158, 159, 5, 160, 104, 135, 136, 137, 161, 162, 163, 511, 512, 513, 514, 94, 95, 867, 868, 869, 870, 871, 872, 873, 874, 875, 876, 877, 878, 879, 880, 881, 882, 883, 884, 885] (by decide +kernel) (by decide +kernel)
set_option maxRecDepth 20000 in
theorem gL_law_X10_ends : GoodIn wsL_law (wsV RL 80 RX10 yX10_ends wsX10_ends) := goodIn_app (goodIn_of _ (by decide +kernel)) ggL_law_X10_ends
set_option maxRecDepth 20000 in
theorem ggL_law_X9_meet : GoodIn wsL_law wsX9_meet := goodIn_r _ [518, 15, 519, 299, 300, 14, 301, 122, 520, 521, 522, 523, 51, 52, 310, 311, 312, 313, 177, 178, 179, 180, 859, 860, 861, 862, 863, 864, 865, 866, 886, 887, 888, 889, 890, 891] (by decide +kernel) (by decide +kernel)
set_option maxRecDepth 20000 in
theorem gL_law_X9_meet : GoodIn wsL_law (wsV RL 81 RX9 yX9_meet wsX9_meet) := goodIn_app (goodIn_of _ (by decide +kernel)) ggL_law_X9_meet
set_option maxRecDepth 20000 in
theorem ggL_law_X10_meet : GoodIn wsL_law wsX10_meet := goodIn_r _ [527, 94, 95, 528, 529, 530, 5, 531, 134, 157, 158, 159, 160, 104, 135, 136, 137, 161, 162, 163, 867, 868, 869, 870, 871, 872, 873, 874, 875, 876, 877, 878, 879, 880, 881, 882, 883, 884, 885] (by decide +kernel) (by decide +kernel)
set_option maxRecDepth 20000 in
theorem gL_law_X10_meet : GoodIn wsL_law (wsV RL 84 RX10 yX10_meet wsX10_meet) := goodIn_app (goodIn_of _ (by decide +kernel)) ggL_law_X10_meet
set_option maxRecDepth 20000 in
theorem ggL_law_X9_bows : GoodIn wsL_law wsX9_bows := goodIn_r _ [535, 536, 27, 537, 538, 2, 539, 114, 115, 116, 540, 541, 542, 26, 543, 544, 545, 546, 547, 548, 549, 550, 551, 552, 553, 554, 555, 556, 557, 558, 559, 560, 561, 562, 563, 564, 565, 566, 567, 568, 569, 570, 571, 572, 573, 574, 575, 576, 577, 578, 579, 580, 581, 582, 583, 584, 585, 586, 587, 588, 859, 860, 861, 862, 863, 864, 865, 866, 904, 905] (by decide +kernel) (by decide +kernel)
set_option maxRecDepth 20000 in
theorem gL_law_X9_bows : GoodIn wsL_law (wsV RL 85 RX9 yX9_bows wsX9_bows) := goodIn_app (goodIn_of _ (by decide +kernel)) ggL_law_X9_bows
set_option maxRecDepth 20000 in
theorem ggL_law_X10_bows : GoodIn wsL_law wsX10_bows := goodIn_r _ [592, 593, 135, 136, 5, 137, 594, 595, 596, 597, 598, 599, 600, 601, 602, 603, 604, 605, 606, 607, 608] (by decide +kernel) (by decide +kernel)
set_option maxRecDepth 20000 in
theorem gL_law_X10_bows : GoodIn wsL_law (wsV RL 88 RX10 yX10_bows wsX10_bows) := goodIn_app (goodIn_of _ (by decide +kernel)) ggL_law_X10_bows
set_option maxRecDepth 20000 in
theorem ggL_law_X9_next : GoodIn wsL_law wsX9_next := goodIn_r _ [612, 172, 537, 538, 2, 539, 114, 115, 116, 613, 614, 26, 615, 616, 617, 618, 568, 569, 570, 619, 620, 621, 622, 623, 624, 625, 626, 627, 628, 574, 575, 576, 580, 581, 582, 583, 584, 585] (by decide +kernel) (by decide +kernel)
set_option maxRecDepth 20000 in
theorem gL_law_X9_next : GoodIn wsL_law (wsV RL 89 RX9 yX9_next wsX9_next) := goodIn_app (goodIn_of _ (by decide +kernel)) ggL_law_X9_next
set_option maxRecDepth 20000 in
theorem ggL_law_X10_next : GoodIn wsL_law wsX10_next := goodIn_r _ [632, 96, 135, 136, 5, 137, 594, 595, 596, 597, 598, 599, 600, 601, 602, 603, 604, 605, 606, 607, 608] (by decide +kernel) (by decide +kernel)
set_option maxRecDepth 20000 in
theorem gL_law_X10_next : GoodIn wsL_law (wsV RL 92 RX10 yX10_next wsX10_next) := goodIn_app (goodIn_of _ (by decide +kernel)) ggL_law_X10_next
set_option maxRecDepth 20000 in
theorem ggL_law_X9_elbows : GoodIn wsL_law wsX9_elbows := goodIn_r _ [636, 15, 502, 114, 115, 2, 116, 637, 335, 336, 14, 337, 51, 298, 299, 300, 301, 122, 338, 339, 340, 341, 123, 124, 125, 126, 127, 128, 129, 638, 859, 860, 861, 862, 863, 864, 865, 866, 886, 887, 888, 889, 890, 891] (by decide +kernel) (by decide +kernel)
set_option maxRecDepth 20000 in
theorem gL_law_X9_elbows : GoodIn wsL_law (wsV RL 93 RX9 yX9_elbows wsX9_elbows) := goodIn_app (goodIn_of _ (by decide +kernel)) ggL_law_X9_elbows
set_option maxRecDepth 20000 in
theorem ggL_law_X10_elbows : GoodIn wsL_law wsX10_elbows := goodIn_r _ [642, 134, 364, 101, 135, 136, 5, 137, 365, 366, 367, 368, 94, 393, 394, 395, 396, 397, 161, 162, 163, 867, 868, 869, 870, 871, 872, 873, 874, 875, 876, 877, 878, 879, 880, 881, 882, 883, 884, 885] (by decide +kernel) (by decide +kernel)
set_option maxRecDepth 20000 in
theorem gL_law_X10_elbows : GoodIn wsL_law (wsV RL 96 RX10 yX10_elbows wsX10_elbows) := goodIn_app (goodIn_of _ (by decide +kernel)) ggL_law_X10_elbows
set_option maxRecDepth 20000 in
theorem ggL_law_X9_relays : GoodIn wsL_law wsX9_relays := goodIn_r _ [646, 15, 110, 114, 115, 2, 116, 123, 124, 125, 126, 127, 128, 129, 647, 648, 649, 859, 860, 861, 862, 863, 864, 865, 866, 886, 887, 888, 889, 890, 891] (by decide +kernel) (by decide +kernel)
set_option maxRecDepth 20000 in
theorem gL_law_X9_relays : GoodIn wsL_law (wsV RL 97 RX9 yX9_relays wsX9_relays) := goodIn_app (goodIn_of _ (by decide +kernel)) ggL_law_X9_relays
set_option maxRecDepth 20000 in
theorem ggL_law_X10_relays : GoodIn wsL_law wsX10_relays := goodIn_r _ [653, 104, 135, 136, 5, 137, 138, 139, 140, 867, 868, 869, 870, 871, 872, 873, 874, 875, 876, 877, 878, 879, 880, 881, 882, 883, 884, 885] (by decide +kernel) (by decide +kernel)
set_option maxRecDepth 20000 in
theorem gL_law_X10_relays : GoodIn wsL_law (wsV RL 101 RX10 yX10_relays wsX10_relays) := goodIn_app (goodIn_of _ (by decide +kernel)) ggL_law_X10_relays
set_option maxRecDepth 20000 in
theorem ggL_law_X9_beads : GoodIn wsL_law wsX9_beads := goodIn_r _ [657, 658, 319, 179, 320, 114, 115, 2, 116] (by decide +kernel) (by decide +kernel)
set_option maxRecDepth 20000 in
theorem gL_law_X9_beads : GoodIn wsL_law (wsV RL 102 RX9 yX9_beads wsX9_beads) := goodIn_app (goodIn_of _ (by decide +kernel)) ggL_law_X9_beads
set_option maxRecDepth 20000 in
theorem ggL_law_X10_beads : GoodIn wsL_law wsX10_beads := goodIn_r _ [662, 397, 135, 136, 5, 137] (by decide +kernel) (by decide +kernel)
set_option maxRecDepth 20000 in
theorem gL_law_X10_beads : GoodIn wsL_law (wsV RL 105 RX10 yX10_beads wsX10_beads) := goodIn_app (goodIn_of _ (by decide +kernel)) ggL_law_X10_beads
set_option maxRecDepth 20000 in
theorem ggL_law_X9_seen : GoodIn wsL_law wsX9_seen := goodIn_r _ [666, 15, 31, 667, 145, 146, 147, 14, 148, 121, 114, 115, 2, 116, 668, 669, 670, 30, 671, 672, 70, 71, 73, 859, 860, 861, 862, 863, 864, 865, 866, 906, 907, 908, 909, 886, 887, 888, 889, 890, 891] (by decide +kernel) (by decide +kernel)
set_option maxRecDepth 20000 in
theorem gL_law_X9_seen : GoodIn wsL_law (wsV RL 106 RX9 yX9_seen wsX9_seen) := goodIn_app (goodIn_of _ (by decide +kernel)) ggL_law_X9_seen
set_option maxRecDepth 20000 in
theorem ggL_law_X10_seen : GoodIn wsL_law wsX10_seen := goodIn_r _ [676, 677, 99, 157, 158, 159, 5, 160, 104, 135, 136, 137, 161, 162, 163, 867, 868, 869, 870, 871, 872, 873, 874, 875, 876, 877, 878, 879, 880, 881, 882, 883, 884, 885] (by decide +kernel) (by decide +kernel)
set_option maxRecDepth 20000 in
theorem gL_law_X10_seen : GoodIn wsL_law (wsV RL 110 RX10 yX10_seen wsX10_seen) := goodIn_app (goodIn_of _ (by decide +kernel)) ggL_law_X10_seen
set_option maxRecDepth 20000 in
theorem ggL_law_X9_forget : GoodIn wsL_law wsX9_forget := goodIn_r _ [681, 31, 667, 859, 860, 861, 862, 863, 864, 865, 866, 906, 907, 908, 909] (by decide +kernel) (by decide +kernel)
set_option maxRecDepth 20000 in
theorem gL_law_X9_forget : GoodIn wsL_law (wsV RL 111 RX9 yX9_forget wsX9_forget) := goodIn_app (goodIn_of _ (by decide +kernel)) ggL_law_X9_forget
set_option maxRecDepth 20000 in
theorem ggL_law_X10_forget : GoodIn wsL_law wsX10_forget := goodIn_r _ [685, 677, 867, 868, 869, 870, 871, 872, 873, 874, 875, 876, 877, 878, 879, 880, 881, 882, 883, 884, 885] (by decide +kernel) (by decide +kernel)
set_option maxRecDepth 20000 in
theorem gL_law_X10_forget : GoodIn wsL_law (wsV RL 114 RX10 yX10_forget wsX10_forget) := goodIn_app (goodIn_of _ (by decide +kernel)) ggL_law_X10_forget
set_option maxRecDepth 20000 in
theorem ggL_law_X9_skips : GoodIn wsL_law wsX9_skips := goodIn_r _ [689, 35, 15, 31, 690, 691, 692, 537, 538, 2, 539, 114, 115, 116, 693, 694, 695, 34, 696, 697, 698, 699, 77, 700, 701, 702, 703, 704, 705, 706, 707, 708, 709, 710, 711, 712, 713, 299, 300, 14, 301, 122, 714, 311, 312, 313, 51, 52, 177, 178, 179, 180, 715, 624, 26, 625, 626, 627, 628, 568, 569, 570, 574, 575, 576, 580, 581, 582, 583, 584, 585, 716, 717, 718, 719, 124, 125, 126, 127, 128, 129, 859, 860, 861, 862, 863, 864, 865, 866, 910, 911, 912, 913, 906, 907, 908, 909, 886, 887, 888, 889, 890, 891] (by decide +kernel) (by decide +kernel)
set_option maxRecDepth 20000 in
theorem gL_law_X9_skips : GoodIn wsL_law (wsV RL 115 RX9 yX9_skips wsX9_skips) := goodIn_app (goodIn_of _ (by decide +kernel)) ggL_law_X9_skips
set_option maxRecDepth 20000 in
theorem ggL_law_X10_skips : GoodIn wsL_law wsX10_skips := goodIn_r _ [723, 134, 135, 136, 5, 137, 724, 725, 726, 727, 677, 99, 728, 729, 730, 731, 94, 95, 528, 529, 530, 531, 157, 158, 159, 160, 104, 161, 162, 163, 594, 595, 596, 597, 598, 599, 600, 601, 602, 603, 604, 605, 606, 607, 608, 867, 868, 869, 870, 871, 872, 873, 874, 875, 876, 877, 878, 879, 880, 881, 882, 883, 884, 885] (by decide +kernel) (by decide +kernel)
set_option maxRecDepth 20000 in
theorem gL_law_X10_skips : GoodIn wsL_law (wsV RL 118 RX10 yX10_skips wsX10_skips) := goodIn_app (goodIn_of _ (by decide +kernel)) ggL_law_X10_skips
set_option maxRecDepth 20000 in
theorem ggL_law_X9_ask : GoodIn wsL_law wsX9_ask := goodIn_r _ [735, 35, 15, 31, 690, 537, 538, 2, 539, 114, 115, 116, 693, 694, 695, 34, 696, 697, 698, 699, 77, 700, 701, 702, 703, 704, 705, 706, 707, 708, 709, 710, 711, 712, 713, 299, 300, 14, 301, 122, 714, 311, 312, 313, 51, 52, 177, 178, 179, 180, 715, 624, 26, 625, 626, 627, 628, 568, 569, 570, 574, 575, 576, 580, 581, 582, 583, 584, 585, 716, 717, 718, 719, 124, 125, 126, 127, 128, 129, 519, 736, 737, 738, 739, 740, 859, 860, 861, 862, 863, 864, 865, 866, 910, 911, 912, 913, 906, 907, 908, 909, 886, 887, 888, 889, 890, 891] (by decide +kernel) (by decide +kernel)
set_option maxRecDepth 20000 in
theorem gL_law_X9_ask : GoodIn wsL_law (wsV RL 119 RX9 yX9_ask wsX9_ask) := goodIn_app (goodIn_of _ (by decide +kernel)) ggL_law_X9_ask
set_option maxRecDepth 20000 in
theorem ggL_law_X10_ask : GoodIn wsL_law wsX10_ask := goodIn_r _ [744, 397, 134, 135, 136, 5, 137, 161, 162, 163, 724, 725, 726, 727, 677, 99, 728, 729, 730, 731, 94, 95, 528, 529, 530, 531, 157, 158, 159, 160, 104, 594, 595, 596, 597, 598, 599, 600, 601, 602, 603, 604, 605, 606, 607, 608, 867, 868, 869, 870, 871, 872, 873, 874, 875, 876, 877, 878, 879, 880, 881, 882, 883, 884, 885] (by decide +kernel) (by decide +kernel)
set_option maxRecDepth 20000 in
theorem gL_law_X10_ask : GoodIn wsL_law (wsV RL 122 RX10 yX10_ask wsX10_ask) := goodIn_app (goodIn_of _ (by decide +kernel)) ggL_law_X10_ask
set_option maxRecDepth 20000 in
theorem ggL_law_X9_bees : GoodIn wsL_law wsX9_bees := goodIn_r _ [748, 749, 15, 750, 114, 115, 2, 116, 472, 331, 332, 14, 333, 51, 298, 299, 300, 301, 122, 751, 752, 753, 754, 755, 756, 757, 758, 759, 760, 761, 762, 763, 764, 765, 766, 178, 179, 180, 767, 768, 769, 770, 771, 772, 859, 860, 861, 862, 863, 864, 865, 866, 886, 887, 888, 889, 890, 891] (by decide +kernel) (by decide +kernel)
set_option maxRecDepth 20000 in
theorem gL_law_X9_bees : GoodIn wsL_law (wsV RL 123 RX9 yX9_bees wsX9_bees) := goodIn_app (goodIn_of _ (by decide +kernel)) ggL_law_X9_bees
set_option maxRecDepth 20000 in
theorem ggL_law_X10_bees : GoodIn wsL_law wsX10_bees := goodIn_r _ [776, 777, 134, 778, 779, 94, 97, 95, 135, 136, 5, 137, 365, 366, 367, 368, 364, 101, 406, 407, 408, 409, 161, 162, 163, 867, 868, 869, 870, 871, 872, 873, 874, 875, 876, 877, 878, 879, 880, 881, 882, 883, 884, 885] (by decide +kernel) (by decide +kernel)
set_option maxRecDepth 20000 in
theorem gL_law_X10_bees : GoodIn wsL_law (wsV RL 127 RX10 yX10_bees wsX10_bees) := goodIn_app (goodIn_of _ (by decide +kernel)) ggL_law_X10_bees
set_option maxRecDepth 20000 in
theorem ggL_law_X9_year : GoodIn wsL_law wsX9_year := goodIn_r _ [783, 39, 15, 784, 502, 785, 114, 115, 2, 116, 786, 787, 788, 38, 789, 82, 790, 791, 792, 272, 273, 14, 274, 121, 122, 48, 49, 51, 275, 276, 277, 278, 52, 793, 280, 281, 282, 283, 146, 147, 148, 794, 795, 796, 797, 798, 799, 800, 801, 802, 803, 804, 290, 291, 292, 293, 230, 18, 231, 112, 113, 294, 295, 296, 297, 298, 299, 300, 301, 805, 315, 316, 317, 318, 319, 179, 320, 321, 307, 308, 309, 310, 311, 312, 313, 177, 178, 180, 322, 323, 324, 325, 326, 327, 328, 329, 330, 331, 332, 333, 334, 335, 336, 337, 338, 339, 340, 341, 342, 343, 344, 345, 806, 807, 808, 809, 123, 124, 125, 126, 127, 128, 129, 859, 860, 861, 862, 863, 864, 865, 866, 914, 915, 886, 887, 888, 889, 890, 891] (by decide +kernel) (by decide +kernel)
set_option maxRecDepth 20000 in
theorem gL_law_X9_year : GoodIn wsL_law (wsV RL 128 RX9 yX9_year wsX9_year) := goodIn_app (goodIn_of _ (by decide +kernel)) ggL_law_X9_year
set_option maxRecDepth 20000 in
theorem ggL_law_X10_year : GoodIn wsL_law wsX10_year := goodIn_r _ [813, 814, 101, 104, 364, 135, 136, 5, 137, 365, 366, 367, 368, 134, 94, 815, 816, 817, 818, 97, 373, 374, 375, 376, 157, 158, 159, 160, 161, 162, 163, 381, 382, 383, 384, 377, 378, 379, 380, 385, 386, 387, 388, 389, 390, 391, 392, 393, 394, 395, 396, 397, 402, 403, 404, 405, 406, 407, 408, 409, 398, 399, 400, 401, 95, 138, 139, 140, 867, 868, 869, 870, 871, 872, 873, 874, 875, 876, 877, 878, 879, 880, 881, 882, 883, 884, 885] (by decide +kernel) (by decide +kernel)
set_option maxRecDepth 20000 in
theorem gL_law_X10_year : GoodIn wsL_law (wsV RL 131 RX10 yX10_year wsX10_year) := goodIn_app (goodIn_of _ (by decide +kernel)) ggL_law_X10_year
set_option maxRecDepth 20000 in
theorem ggL_law_X9_image : GoodIn wsL_law wsX9_image := goodIn_r _ [822, 43, 15, 31, 114, 115, 2, 116, 823, 824, 825, 42, 826, 87, 89, 827, 828, 272, 273, 14, 274, 121, 122, 48, 49, 51, 275, 276, 277, 278, 52, 829, 830, 831, 30, 832, 672, 70, 71, 73, 859, 860, 861, 862, 863, 864, 865, 866, 916, 917, 918, 886, 887, 888, 889, 890, 891, 906, 907, 908, 909] (by decide +kernel) (by decide +kernel)
set_option maxRecDepth 20000 in
theorem gL_law_X9_image : GoodIn wsL_law (wsV RL 132 RX9 yX9_image wsX9_image) := goodIn_app (goodIn_of _ (by decide +kernel)) ggL_law_X9_image
set_option maxRecDepth 20000 in
theorem ggL_law_X10_image : GoodIn wsL_law wsX10_image := goodIn_r _ [836, 102, 94, 95, 99, 104, 134, 97, 98, 677, 103, 135, 136, 5, 137, 867, 868, 869, 870, 871, 872, 873, 874, 875, 876, 877, 878, 879, 880, 881, 882, 883, 884, 885] (by decide +kernel) (by decide +kernel)
set_option maxRecDepth 20000 in
theorem gL_law_X10_image : GoodIn wsL_law (wsV RL 135 RX10 yX10_image wsX10_image) := goodIn_app (goodIn_of _ (by decide +kernel)) ggL_law_X10_image
set_option maxRecDepth 20000 in
theorem ggL_law_X9_restore : GoodIn wsL_law wsX9_restore := goodIn_r _ [840, 43, 841, 15, 31, 114, 115, 2, 116, 842, 843, 844, 42, 845, 87, 89, 828, 272, 273, 14, 274, 121, 122, 48, 49, 51, 275, 276, 277, 278, 52, 829, 830, 831, 30, 832, 672, 70, 71, 73, 859, 860, 861, 862, 863, 864, 865, 866, 916, 917, 918, 886, 887, 888, 889, 890, 891, 906, 907, 908, 909] (by decide +kernel) (by decide +kernel)
set_option maxRecDepth 20000 in
theorem gL_law_X9_restore : GoodIn wsL_law (wsV RL 136 RX9 yX9_restore wsX9_restore) := goodIn_app (goodIn_of _ (by decide +kernel)) ggL_law_X9_restore
set_option maxRecDepth 20000 in
theorem ggL_law_X10_restore : GoodIn wsL_law wsX10_restore := goodIn_r _ [849, 103, 94, 102, 95, 99, 104, 134, 97, 98, 677, 135, 136, 5, 137, 867, 868, 869, 870, 871, 872, 873, 874, 875, 876, 877, 878, 879, 880, 881, 882, 883, 884, 885] (by decide +kernel) (by decide +kernel)
set_option maxRecDepth 20000 in
theorem gL_law_X10_restore : GoodIn wsL_law (wsV RL 139 RX10 yX10_restore wsX10_restore) := goodIn_app (goodIn_of _ (by decide +kernel)) ggL_law_X10_restore
set_option maxRecDepth 20000 in
theorem ggL_law_X9_told : GoodIn wsL_law wsX9_told := goodIn_r _ [853, 19, 194, 15, 110, 502, 109, 185, 31, 667, 854, 145, 146, 147, 14, 148, 121, 859, 860, 861, 862, 863, 864, 865, 866, 892, 893, 894, 895, 896, 886, 887, 888, 889, 890, 891, 906, 907, 908, 909] (by decide +kernel) (by decide +kernel)
set_option maxRecDepth 20000 in
theorem gL_law_X9_told : GoodIn wsL_law (wsV RL 140 RX9 yX9_told wsX9_told) := goodIn_app (goodIn_of _ (by decide +kernel)) ggL_law_X9_told
set_option maxRecDepth 20000 in
theorem ggL_law_X10_told : GoodIn wsL_law wsX10_told := goodIn_r _ [858, 95, 204, 104, 134, 97, 98, 677, 157, 158, 159, 5, 160, 135, 136, 137, 161, 162, 163, 867, 868, 869, 870, 871, 872, 873, 874, 875, 876, 877, 878, 879, 880, 881, 882, 883, 884, 885] (by decide +kernel) (by decide +kernel)
set_option maxRecDepth 20000 in
theorem gL_law_X10_told : GoodIn wsL_law (wsV RL 143 RX10 yX10_told wsX10_told) := goodIn_app (goodIn_of _ (by decide +kernel)) ggL_law_X10_told
theorem dL_law_0 : decode cL_law 0 = .ok (.new 7, 3) := by decide +kernel
theorem dL_law_3 : decode cL_law 3 = .ok (.dup, 1) := by decide +kernel
theorem dL_law_4 : decode cL_law 4 = .ok (.invokespecial 9, 3) := by decide +kernel
theorem dL_law_7 : decode cL_law 7 = .ok (.astore_n 1, 1) := by decide +kernel
theorem dL_law_8 : decode cL_law 8 = .ok (.new 10, 3) := by decide +kernel
theorem dL_law_11 : decode cL_law 11 = .ok (.dup, 1) := by decide +kernel
theorem dL_law_12 : decode cL_law 12 = .ok (.invokespecial 12, 3) := by decide +kernel
theorem dL_law_15 : decode cL_law 15 = .ok (.astore_n 2, 1) := by decide +kernel
theorem dL_law_16 : decode cL_law 16 = .ok (.iconst 0, 1) := by decide +kernel
theorem dL_law_17 : decode cL_law 17 = .ok (.istore_n 3, 1) := by decide +kernel
theorem dL_law_18 : decode cL_law 18 = .ok (.iload_n 3, 1) := by decide +kernel
theorem dL_law_19 : decode cL_law 19 = .ok (.aload_n 0, 1) := by decide +kernel
theorem dL_law_20 : decode cL_law 20 = .ok (.arraylength, 1) := by decide +kernel
theorem dL_law_21 : decode cL_law 21 = .ok (.iconst 5, 1) := by decide +kernel
theorem dL_law_22 : decode cL_law 22 = .ok (.isub, 1) := by decide +kernel
theorem dL_law_23 : decode cL_law 23 = .ok (.if_icmp .gt 1045, 3) := by decide +kernel
theorem dL_law_26 : decode cL_law 26 = .ok (.aload_n 0, 1) := by decide +kernel
theorem dL_law_27 : decode cL_law 27 = .ok (.iload_n 3, 1) := by decide +kernel
theorem dL_law_28 : decode cL_law 28 = .ok (.iaload, 1) := by decide +kernel
theorem dL_law_29 : decode cL_law 29 = .ok (.bipush 31, 2) := by decide +kernel
theorem dL_law_31 : decode cL_law 31 = .ok (.iand, 1) := by decide +kernel
theorem dL_law_32 : decode cL_law 32 = .ok (.tableswitch 1030 0 30 #[140, 183, 206, 239, 262, 275, 288, 311, 324, 357, 390, 413, 426, 439, 452, 475, 498, 531, 574, 607, 630, 683, 716, 775, 788, 821, 864, 918, 961, 984, 1007], 140) := by decide +kernel
theorem dL_law_172 : decode cL_law 172 = .ok (.aload_n 1, 1) := by decide +kernel
theorem dL_law_173 : decode cL_law 173 = .ok (.aload_n 0, 1) := by decide +kernel
theorem dL_law_174 : decode cL_law 174 = .ok (.iload_n 3, 1) := by decide +kernel
theorem dL_law_175 : decode cL_law 175 = .ok (.iconst 1, 1) := by decide +kernel
theorem dL_law_176 : decode cL_law 176 = .ok (.iadd, 1) := by decide +kernel
theorem dL_law_177 : decode cL_law 177 = .ok (.iaload, 1) := by decide +kernel
theorem dL_law_178 : decode cL_law 178 = .ok (.aload_n 0, 1) := by decide +kernel
theorem dL_law_179 : decode cL_law 179 = .ok (.iload_n 3, 1) := by decide +kernel
theorem dL_law_180 : decode cL_law 180 = .ok (.iconst 2, 1) := by decide +kernel
theorem dL_law_181 : decode cL_law 181 = .ok (.iadd, 1) := by decide +kernel
theorem dL_law_182 : decode cL_law 182 = .ok (.iaload, 1) := by decide +kernel
theorem dL_law_183 : decode cL_law 183 = .ok (.aload_n 0, 1) := by decide +kernel
theorem dL_law_184 : decode cL_law 184 = .ok (.iload_n 3, 1) := by decide +kernel
theorem dL_law_185 : decode cL_law 185 = .ok (.iconst 3, 1) := by decide +kernel
theorem dL_law_186 : decode cL_law 186 = .ok (.iadd, 1) := by decide +kernel
theorem dL_law_187 : decode cL_law 187 = .ok (.iaload, 1) := by decide +kernel
theorem dL_law_188 : decode cL_law 188 = .ok (.invokevirtual 13, 3) := by decide +kernel
theorem dL_law_191 : decode cL_law 191 = .ok (.aload_n 2, 1) := by decide +kernel
theorem dL_law_192 : decode cL_law 192 = .ok (.aload_n 0, 1) := by decide +kernel
theorem dL_law_193 : decode cL_law 193 = .ok (.iload_n 3, 1) := by decide +kernel
theorem dL_law_194 : decode cL_law 194 = .ok (.iconst 1, 1) := by decide +kernel
theorem dL_law_195 : decode cL_law 195 = .ok (.iadd, 1) := by decide +kernel
theorem dL_law_196 : decode cL_law 196 = .ok (.iaload, 1) := by decide +kernel
theorem dL_law_197 : decode cL_law 197 = .ok (.aload_n 0, 1) := by decide +kernel
theorem dL_law_198 : decode cL_law 198 = .ok (.iload_n 3, 1) := by decide +kernel
theorem dL_law_199 : decode cL_law 199 = .ok (.iconst 2, 1) := by decide +kernel
theorem dL_law_200 : decode cL_law 200 = .ok (.iadd, 1) := by decide +kernel
theorem dL_law_201 : decode cL_law 201 = .ok (.iaload, 1) := by decide +kernel
theorem dL_law_202 : decode cL_law 202 = .ok (.aload_n 0, 1) := by decide +kernel
theorem dL_law_203 : decode cL_law 203 = .ok (.iload_n 3, 1) := by decide +kernel
theorem dL_law_204 : decode cL_law 204 = .ok (.iconst 3, 1) := by decide +kernel
theorem dL_law_205 : decode cL_law 205 = .ok (.iadd, 1) := by decide +kernel
theorem dL_law_206 : decode cL_law 206 = .ok (.iaload, 1) := by decide +kernel
theorem dL_law_207 : decode cL_law 207 = .ok (.invokevirtual 17, 3) := by decide +kernel
theorem dL_law_210 : decode cL_law 210 = .ok (.if_icmp .eq 852, 3) := by decide +kernel
theorem dL_law_213 : decode cL_law 213 = .ok (.iconst 0, 1) := by decide +kernel
theorem dL_law_214 : decode cL_law 214 = .ok (.ireturn, 1) := by decide +kernel
theorem dL_law_215 : decode cL_law 215 = .ok (.aload_n 1, 1) := by decide +kernel
theorem dL_law_216 : decode cL_law 216 = .ok (.aload_n 0, 1) := by decide +kernel
theorem dL_law_217 : decode cL_law 217 = .ok (.iload_n 3, 1) := by decide +kernel
theorem dL_law_218 : decode cL_law 218 = .ok (.iconst 1, 1) := by decide +kernel
theorem dL_law_219 : decode cL_law 219 = .ok (.iadd, 1) := by decide +kernel
theorem dL_law_220 : decode cL_law 220 = .ok (.iaload, 1) := by decide +kernel
theorem dL_law_221 : decode cL_law 221 = .ok (.invokevirtual 18, 3) := by decide +kernel
theorem dL_law_224 : decode cL_law 224 = .ok (.aload_n 2, 1) := by decide +kernel
theorem dL_law_225 : decode cL_law 225 = .ok (.aload_n 0, 1) := by decide +kernel
theorem dL_law_226 : decode cL_law 226 = .ok (.iload_n 3, 1) := by decide +kernel
theorem dL_law_227 : decode cL_law 227 = .ok (.iconst 1, 1) := by decide +kernel
theorem dL_law_228 : decode cL_law 228 = .ok (.iadd, 1) := by decide +kernel
theorem dL_law_229 : decode cL_law 229 = .ok (.iaload, 1) := by decide +kernel
theorem dL_law_230 : decode cL_law 230 = .ok (.invokevirtual 22, 3) := by decide +kernel
theorem dL_law_233 : decode cL_law 233 = .ok (.if_icmp .eq 829, 3) := by decide +kernel
theorem dL_law_236 : decode cL_law 236 = .ok (.iconst 0, 1) := by decide +kernel
theorem dL_law_237 : decode cL_law 237 = .ok (.ireturn, 1) := by decide +kernel
theorem dL_law_238 : decode cL_law 238 = .ok (.aload_n 1, 1) := by decide +kernel
theorem dL_law_239 : decode cL_law 239 = .ok (.aload_n 0, 1) := by decide +kernel
theorem dL_law_240 : decode cL_law 240 = .ok (.iload_n 3, 1) := by decide +kernel
theorem dL_law_241 : decode cL_law 241 = .ok (.iconst 1, 1) := by decide +kernel
theorem dL_law_242 : decode cL_law 242 = .ok (.iadd, 1) := by decide +kernel
theorem dL_law_243 : decode cL_law 243 = .ok (.iaload, 1) := by decide +kernel

/-! the constructors as tables (0 .. 12 the classes' own, 13 become, 14 the law up to its second constructor) -/
def kc_0 : en_c := [(0, .aload_n 0, 1, 0, 0, 0, 0), (1, .invokespecial 3, 3, 99, 0, 551, 0), (4, .aload_n 0, 1, 0, 0, 0, 0), (5, .bipush 6, 2, 0, 0, 0, 0), (7, .sipush 364, 3, 0, 0, 0, 0), (10, .multianewarray 11 2, 4, 0, 0, 552, 0), (14, .putfield 13, 3, 0, 2, 555, 1), (17, .aload_n 0, 1, 0, 0, 0, 0), (18, .bipush 18, 2, 0, 0, 0, 0), (20, .sipush 364, 3, 0, 0, 0, 0), (23, .multianewarray 11 2, 4, 0, 0, 552, 0), (27, .putfield 16, 3, 0, 3, 556, 1), (30, .aload_n 0, 1, 0, 0, 0, 0), (31, .iconst 3, 1, 0, 0, 0, 0), (32, .newarray .byte, 2, 1, 0, 0, 0), (34, .putfield 19, 3, 0, 4, 557, 1), (37, .aload_n 0, 1, 0, 0, 0, 0), (38, .sipush 364, 3, 0, 0, 0, 0), (41, .newarray .int, 2, 0, 0, 0, 0), (43, .putfield 23, 3, 0, 5, 558, 1), (46, .aload_n 0, 1, 0, 0, 0, 0), (47, .sipush 364, 3, 0, 0, 0, 0), (50, .newarray .int, 2, 0, 0, 0, 0), (52, .putfield 27, 3, 0, 6, 559, 1), (55, .aload_n 0, 1, 0, 0, 0, 0), (56, .sipush 364, 3, 0, 0, 0, 0), (59, .newarray .int, 2, 0, 0, 0, 0), (61, .putfield 30, 3, 0, 7, 560, 1), (64, .aload_n 0, 1, 0, 0, 0, 0), (65, .aload_n 1, 1, 1, 0, 0, 0), (66, .putfield 33, 3, 0, 0, 553, 1), (69, .aload_n 0, 1, 0, 0, 0, 0), (70, .aload_n 2, 1, 2, 0, 0, 0), (71, .putfield 37, 3, 0, 1, 554, 1), (74, .return_, 1, 0, 0, 0, 0)]
def kc_1 : en_c := [(0, .aload_n 0, 1, 0, 0, 0, 0), (1, .invokespecial 3, 3, 99, 0, 409, 0), (4, .aload_n 0, 1, 0, 0, 0, 0), (5, .bipush 81, 2, 0, 0, 0, 0), (7, .newarray .long, 2, 3, 0, 0, 0), (9, .putfield 11, 3, 1, 2, 412, 1), (12, .aload_n 0, 1, 0, 0, 0, 0), (13, .bipush 81, 2, 0, 0, 0, 0), (15, .newarray .long, 2, 3, 0, 0, 0), (17, .putfield 15, 3, 1, 3, 413, 1), (20, .aload_n 0, 1, 0, 0, 0, 0), (21, .bipush 81, 2, 0, 0, 0, 0), (23, .newarray .long, 2, 3, 0, 0, 0), (25, .putfield 18, 3, 1, 4, 414, 1), (28, .aload_n 0, 1, 0, 0, 0, 0), (29, .bipush 81, 2, 0, 0, 0, 0), (31, .newarray .long, 2, 3, 0, 0, 0), (33, .putfield 21, 3, 1, 5, 415, 1), (36, .aload_n 0, 1, 0, 0, 0, 0), (37, .bipush 81, 2, 0, 0, 0, 0), (39, .newarray .int, 2, 0, 0, 0, 0), (41, .putfield 24, 3, 1, 6, 416, 1), (44, .aload_n 0, 1, 0, 0, 0, 0), (45, .sipush 2912, 3, 0, 0, 0, 0), (48, .newarray .int, 2, 0, 0, 0, 0), (50, .putfield 28, 3, 1, 7, 417, 1), (53, .aload_n 0, 1, 0, 0, 0, 0), (54, .sipush 2912, 3, 0, 0, 0, 0), (57, .newarray .int, 2, 0, 0, 0, 0), (59, .putfield 31, 3, 1, 8, 418, 1), (62, .aload_n 0, 1, 0, 0, 0, 0), (63, .aload_n 1, 1, 1, 0, 0, 0), (64, .putfield 34, 3, 1, 0, 410, 1), (67, .aload_n 0, 1, 0, 0, 0, 0), (68, .aload_n 2, 1, 2, 0, 0, 0), (69, .putfield 38, 3, 1, 1, 411, 1), (72, .return_, 1, 0, 0, 0, 0)]
def kc_2 : en_c := [(0, .aload_n 0, 1, 0, 0, 0, 0), (1, .invokespecial 3, 3, 99, 0, 475, 0), (4, .aload_n 0, 1, 0, 0, 0, 0), (5, .bipush 16, 2, 0, 0, 0, 0), (7, .newarray .int, 2, 0, 0, 0, 0), (9, .putfield 9, 3, 2, 3, 481, 1), (12, .aload_n 0, 1, 0, 0, 0, 0), (13, .aload_n 1, 1, 1, 0, 0, 0), (14, .putfield 15, 3, 2, 0, 478, 1), (17, .aload_n 0, 1, 0, 0, 0, 0), (18, .aload_n 2, 1, 2, 0, 0, 0), (19, .putfield 19, 3, 2, 1, 479, 1), (22, .aload_n 0, 1, 0, 0, 0, 0), (23, .new 23, 3, 3, 0, 476, 0), (26, .dup, 1, 0, 0, 0, 0), (27, .aload_n 1, 1, 1, 0, 0, 0), (28, .invokespecial 25, 3, 3, 2, 477, 0), (31, .putfield 28, 3, 2, 2, 480, 1), (34, .return_, 1, 0, 0, 0, 0)]
def kc_3 : en_c := [(0, .aload_n 0, 1, 0, 0, 0, 0), (1, .invokespecial 3, 3, 99, 0, 364, 0), (4, .aload_n 0, 1, 0, 0, 0, 0), (5, .bipush 16, 2, 0, 0, 0, 0), (7, .sipush 256, 3, 0, 0, 0, 0), (10, .multianewarray 11 2, 4, 0, 0, 365, 0), (14, .putfield 13, 3, 3, 1, 368, 1), (17, .aload_n 0, 1, 0, 0, 0, 0), (18, .bipush 16, 2, 0, 0, 0, 0), (20, .newarray .int, 2, 0, 0, 0, 0), (22, .putfield 16, 3, 3, 2, 369, 1), (25, .aload_n 0, 1, 0, 0, 0, 0), (26, .ldc 20, 2, 0, 0, 366, 69905), (28, .newarray .int, 2, 0, 0, 0, 0), (30, .putfield 21, 3, 3, 4, 371, 1), (33, .aload_n 0, 1, 0, 0, 0, 0), (34, .bipush 9, 2, 0, 0, 0, 0), (36, .newarray .int, 2, 0, 0, 0, 0), (38, .putfield 24, 3, 3, 5, 372, 1), (41, .aload_n 0, 1, 0, 0, 0, 0), (42, .sipush 364, 3, 0, 0, 0, 0), (45, .newarray .byte, 2, 1, 0, 0, 0), (47, .putfield 27, 3, 3, 6, 373, 1), (50, .aload_n 0, 1, 0, 0, 0, 0), (51, .bipush 8, 2, 0, 0, 0, 0), (53, .newarray .int, 2, 0, 0, 0, 0), (55, .putfield 31, 3, 3, 7, 374, 1), (58, .aload_n 0, 1, 0, 0, 0, 0), (59, .bipush 8, 2, 0, 0, 0, 0), (61, .newarray .long, 2, 3, 0, 0, 0), (63, .putfield 34, 3, 3, 8, 375, 1), (66, .aload_n 0, 1, 0, 0, 0, 0), (67, .sipush 256, 3, 0, 0, 0, 0), (70, .newarray .int, 2, 0, 0, 0, 0), (72, .putfield 38, 3, 3, 9, 376, 1), (75, .aload_n 0, 1, 0, 0, 0, 0), (76, .sipush 256, 3, 0, 0, 0, 0), (79, .newarray .int, 2, 0, 0, 0, 0), (81, .putfield 41, 3, 3, 10, 377, 1), (84, .aload_n 0, 1, 0, 0, 0, 0), (85, .iconst (-1), 1, 0, 0, 0, 0), (86, .putfield 44, 3, 3, 11, 378, 0), (89, .aload_n 0, 1, 0, 0, 0, 0), (90, .aload_n 1, 1, 1, 0, 0, 0), (91, .putfield 48, 3, 3, 0, 367, 1), (94, .return_, 1, 0, 0, 0, 0)]
def kc_4 : en_c := [(0, .aload_n 0, 1, 0, 0, 0, 0), (1, .invokespecial 1, 3, 99, 0, 443, 0), (4, .aload_n 0, 1, 0, 0, 0, 0), (5, .bipush 81, 2, 0, 0, 0, 0), (7, .newarray .int, 2, 0, 0, 0, 0), (9, .putfield 9, 3, 4, 2, 447, 1), (12, .aload_n 0, 1, 0, 0, 0, 0), (13, .bipush 81, 2, 0, 0, 0, 0), (15, .newarray .int, 2, 0, 0, 0, 0), (17, .putfield 13, 3, 4, 3, 448, 1), (20, .aload_n 0, 1, 0, 0, 0, 0), (21, .bipush 81, 2, 0, 0, 0, 0), (23, .bipush 81, 2, 0, 0, 0, 0), (25, .multianewarray 16 2, 4, 0, 0, 444, 0), (29, .putfield 18, 3, 4, 4, 449, 1), (32, .aload_n 0, 1, 0, 0, 0, 0), (33, .bipush 81, 2, 0, 0, 0, 0), (35, .newarray .byte, 2, 1, 0, 0, 0), (37, .putfield 21, 3, 4, 5, 450, 1), (40, .aload_n 0, 1, 0, 0, 0, 0), (41, .aload_n 1, 1, 1, 0, 0, 0), (42, .putfield 25, 3, 4, 0, 445, 1), (45, .aload_n 0, 1, 0, 0, 0, 0), (46, .aload_n 2, 1, 2, 0, 0, 0), (47, .putfield 29, 3, 4, 1, 446, 1), (50, .return_, 1, 0, 0, 0, 0)]
def kc_5 : en_c := [(0, .aload_n 0, 1, 0, 0, 0, 0), (1, .invokespecial 3, 3, 99, 0, 262, 0), (4, .aload_n 0, 1, 0, 0, 0, 0), (5, .bipush 8, 2, 0, 0, 0, 0), (7, .newarray .int, 2, 0, 0, 0, 0), (9, .putfield 9, 3, 5, 3, 276, 1), (12, .aload_n 0, 1, 0, 0, 0, 0), (13, .bipush 9, 2, 0, 0, 0, 0), (15, .newarray .int, 2, 0, 0, 0, 0), (17, .putfield 15, 3, 5, 4, 277, 1), (20, .aload_n 0, 1, 0, 0, 0, 0), (21, .sipush 364, 3, 0, 0, 0, 0), (24, .newarray .int, 2, 0, 0, 0, 0), (26, .putfield 18, 3, 5, 5, 278, 1), (29, .aload_n 0, 1, 0, 0, 0, 0), (30, .iconst 0, 1, 0, 0, 0, 0), (31, .bipush 7, 2, 0, 0, 0, 0), (33, .bipush 97, 2, 0, 0, 0, 0), (35, .invokevirtual 21, 3, 13, 4, 263, 0), (38, .return_, 1, 0, 0, 0, 0)]
def kc_6 : en_c := [(0, .aload_n 0, 1, 0, 0, 0, 0), (1, .invokespecial 3, 3, 99, 0, 499, 0), (4, .aload_n 0, 1, 0, 0, 0, 0), (5, .sipush 2048, 3, 0, 0, 0, 0), (8, .newarray .int, 2, 0, 0, 0, 0), (10, .putfield 11, 3, 6, 2, 502, 1), (13, .aload_n 0, 1, 0, 0, 0, 0), (14, .sipush 2048, 3, 0, 0, 0, 0), (17, .newarray .int, 2, 0, 0, 0, 0), (19, .putfield 15, 3, 6, 3, 503, 1), (22, .aload_n 0, 1, 0, 0, 0, 0), (23, .sipush 14336, 3, 0, 0, 0, 0), (26, .newarray .byte, 2, 1, 0, 0, 0), (28, .putfield 18, 3, 6, 4, 504, 1), (31, .aload_n 0, 1, 0, 0, 0, 0), (32, .sipush 256, 3, 0, 0, 0, 0), (35, .newarray .int, 2, 0, 0, 0, 0), (37, .putfield 22, 3, 6, 5, 505, 1), (40, .aload_n 0, 1, 0, 0, 0, 0), (41, .bipush 9, 2, 0, 0, 0, 0), (43, .newarray .int, 2, 0, 0, 0, 0), (45, .putfield 25, 3, 6, 6, 506, 1), (48, .aload_n 0, 1, 0, 0, 0, 0), (49, .bipush 8, 2, 0, 0, 0, 0), (51, .newarray .int, 2, 0, 0, 0, 0), (53, .putfield 28, 3, 6, 7, 507, 1), (56, .aload_n 0, 1, 0, 0, 0, 0), (57, .iconst 1, 1, 0, 0, 0, 0), (58, .putfield 31, 3, 6, 8, 508, 0), (61, .aload_n 0, 1, 0, 0, 0, 0), (62, .sipush 6561, 3, 0, 0, 0, 0), (65, .newarray .int, 2, 0, 0, 0, 0), (67, .putfield 35, 3, 6, 10, 510, 1), (70, .aload_n 0, 1, 0, 0, 0, 0), (71, .sipush 6561, 3, 0, 0, 0, 0), (74, .newarray .int, 2, 0, 0, 0, 0), (76, .putfield 38, 3, 6, 11, 511, 1), (79, .aload_n 0, 1, 0, 0, 0, 0), (80, .bipush 81, 2, 0, 0, 0, 0), (82, .newarray .byte, 2, 1, 0, 0, 0), (84, .putfield 41, 3, 6, 12, 512, 1), (87, .aload_n 0, 1, 0, 0, 0, 0), (88, .iconst 4, 1, 0, 0, 0, 0), (89, .newarray .int, 2, 0, 0, 0, 0), (91, .putfield 44, 3, 6, 13, 513, 1), (94, .aload_n 0, 1, 0, 0, 0, 0), (95, .bipush 7, 2, 0, 0, 0, 0), (97, .newarray .int, 2, 0, 0, 0, 0), (99, .putfield 47, 3, 6, 14, 514, 1), (102, .aload_n 0, 1, 0, 0, 0, 0), (103, .aload_n 1, 1, 1, 0, 0, 0), (104, .putfield 50, 3, 6, 0, 500, 1), (107, .aload_n 0, 1, 0, 0, 0, 0), (108, .aload_n 2, 1, 2, 0, 0, 0), (109, .putfield 54, 3, 6, 1, 501, 1), (112, .return_, 1, 0, 0, 0, 0)]
def kc_7 : en_c := [(0, .aload_n 0, 1, 0, 0, 0, 0), (1, .invokespecial 5, 3, 99, 0, 254, 0), (4, .aload_n 0, 1, 0, 0, 0, 0), (5, .iconst 5, 1, 0, 0, 0, 0), (6, .sipush 364, 3, 0, 0, 0, 0), (9, .multianewarray 13 2, 4, 0, 0, 255, 0), (13, .putfield 15, 3, 7, 0, 292, 1), (16, .aload_n 0, 1, 0, 0, 0, 0), (17, .iconst 5, 1, 0, 0, 0, 0), (18, .sipush 364, 3, 0, 0, 0, 0), (21, .multianewarray 13 2, 4, 0, 0, 255, 0), (25, .putfield 18, 3, 7, 1, 293, 1), (28, .aload_n 0, 1, 0, 0, 0, 0), (29, .sipush 364, 3, 0, 0, 0, 0), (32, .newarray .int, 2, 0, 0, 0, 0), (34, .putfield 21, 3, 7, 2, 294, 1), (37, .aload_n 0, 1, 0, 0, 0, 0), (38, .iconst 5, 1, 0, 0, 0, 0), (39, .newarray .int, 2, 0, 0, 0, 0), (41, .putfield 25, 3, 7, 3, 295, 1), (44, .aload_n 0, 1, 0, 0, 0, 0), (45, .iconst 5, 1, 0, 0, 0, 0), (46, .newarray .int, 2, 0, 0, 0, 0), (48, .putfield 28, 3, 7, 4, 296, 1), (51, .aload_n 0, 1, 0, 0, 0, 0), (52, .new 31, 3, 5, 0, 257, 0), (55, .dup, 1, 0, 0, 0, 0), (56, .invokespecial 33, 3, 5, 1, 259, 0), (59, .putfield 34, 3, 7, 5, 297, 1), (62, .return_, 1, 0, 0, 0, 0)]
def kc_8 : en_c := [(0, .aload_n 0, 1, 0, 0, 0, 0), (1, .invokespecial 3, 3, 99, 0, 183, 0), (4, .aload_n 0, 1, 0, 0, 0, 0), (5, .sipush 2000, 3, 0, 0, 0, 0), (8, .newarray .byte, 2, 1, 0, 0, 0), (10, .putfield 9, 3, 8, 0, 184, 1), (13, .return_, 1, 0, 0, 0, 0)]
def kc_9 : en_c := [(0, .aload_n 0, 1, 0, 0, 0, 0), (1, .invokespecial 3, 3, 99, 0, 316, 0), (4, .aload_n 0, 1, 0, 0, 0, 0), (5, .new 9, 3, 5, 0, 317, 0), (8, .dup, 1, 0, 0, 0, 0), (9, .invokespecial 11, 3, 5, 1, 318, 0), (12, .putfield 12, 3, 9, 1, 321, 1), (15, .aload_n 0, 1, 0, 0, 0, 0), (16, .iconst 4, 1, 0, 0, 0, 0), (17, .newarray .long, 2, 3, 0, 0, 0), (19, .putfield 18, 3, 9, 2, 322, 1), (22, .aload_n 0, 1, 0, 0, 0, 0), (23, .bipush 8, 2, 0, 0, 0, 0), (25, .sipush 256, 3, 0, 0, 0, 0), (28, .multianewarray 22 2, 4, 0, 0, 319, 0), (32, .putfield 24, 3, 9, 3, 323, 1), (35, .aload_n 0, 1, 0, 0, 0, 0), (36, .bipush 8, 2, 0, 0, 0, 0), (38, .newarray .int, 2, 0, 0, 0, 0), (40, .putfield 27, 3, 9, 4, 324, 1), (43, .aload_n 0, 1, 0, 0, 0, 0), (44, .sipush 364, 3, 0, 0, 0, 0), (47, .newarray .int, 2, 0, 0, 0, 0), (49, .putfield 31, 3, 9, 5, 325, 1), (52, .aload_n 0, 1, 0, 0, 0, 0), (53, .aload_n 1, 1, 1, 0, 0, 0), (54, .putfield 34, 3, 9, 0, 320, 1), (57, .return_, 1, 0, 0, 0, 0)]
def kc_10 : en_c := [(0, .aload_n 0, 1, 0, 0, 0, 0), (1, .invokespecial 3, 3, 99, 0, 197, 0), (4, .aload_n 0, 1, 0, 0, 0, 0), (5, .sipush 400, 3, 0, 0, 0, 0), (8, .newarray .int, 2, 0, 0, 0, 0), (10, .putfield 11, 3, 10, 0, 198, 1), (13, .aload_n 0, 1, 0, 0, 0, 0), (14, .sipush 400, 3, 0, 0, 0, 0), (17, .newarray .int, 2, 0, 0, 0, 0), (19, .putfield 15, 3, 10, 1, 199, 1), (22, .aload_n 0, 1, 0, 0, 0, 0), (23, .sipush 400, 3, 0, 0, 0, 0), (26, .newarray .int, 2, 0, 0, 0, 0), (28, .putfield 18, 3, 10, 2, 200, 1), (31, .aload_n 0, 1, 0, 0, 0, 0), (32, .sipush 400, 3, 0, 0, 0, 0), (35, .newarray .long, 2, 3, 0, 0, 0), (37, .putfield 21, 3, 10, 3, 201, 1), (40, .return_, 1, 0, 0, 0, 0)]
def kc_11 : en_c := [(0, .aload_n 0, 1, 0, 0, 0, 0), (1, .invokespecial 1, 3, 99, 0, 175, 0), (4, .aload_n 0, 1, 0, 0, 0, 0), (5, .new 7, 3, 8, 0, 178, 0), (8, .dup, 1, 0, 0, 0, 0), (9, .invokespecial 9, 3, 8, 1, 180, 1), (12, .putfield 10, 3, 11, 0, 578, 1), (15, .aload_n 0, 1, 0, 0, 0, 0), (16, .new 16, 3, 10, 0, 192, 0), (19, .dup, 1, 0, 0, 0, 0), (20, .invokespecial 18, 3, 10, 1, 194, 1), (23, .putfield 19, 3, 11, 1, 579, 1), (26, .aload_n 0, 1, 0, 0, 0, 0), (27, .new 23, 3, 7, 0, 249, 0), (30, .dup, 1, 0, 0, 0, 0), (31, .invokespecial 25, 3, 7, 1, 251, 1), (34, .putfield 26, 3, 11, 2, 580, 1), (37, .aload_n 0, 1, 0, 0, 0, 0), (38, .new 30, 3, 9, 0, 311, 0), (41, .dup, 1, 0, 0, 0, 0), (42, .aload_n 0, 1, 0, 0, 0, 0), (43, .getfield 26, 3, 11, 2, 580, 1), (46, .invokespecial 32, 3, 9, 2, 313, 0), (49, .putfield 35, 3, 11, 3, 581, 1), (52, .aload_n 0, 1, 0, 0, 0, 0), (53, .new 39, 3, 5, 0, 357, 0), (56, .dup, 1, 0, 0, 0, 0), (57, .invokespecial 41, 3, 5, 1, 358, 0), (60, .putfield 42, 3, 11, 4, 582, 1), (63, .aload_n 0, 1, 0, 0, 0, 0), (64, .iconst 4, 1, 0, 0, 0, 0), (65, .newarray .long, 2, 3, 0, 0, 0), (67, .putfield 46, 3, 11, 5, 583, 1), (70, .aload_n 0, 1, 0, 0, 0, 0), (71, .new 50, 3, 3, 0, 359, 0), (74, .dup, 1, 0, 0, 0, 0), (75, .aload_n 0, 1, 0, 0, 0, 0), (76, .getfield 42, 3, 11, 4, 582, 1), (79, .invokespecial 52, 3, 3, 2, 361, 0), (82, .putfield 55, 3, 11, 6, 584, 1), (85, .aload_n 0, 1, 0, 0, 0, 0), (86, .new 59, 3, 1, 0, 404, 0), (89, .dup, 1, 0, 0, 0, 0), (90, .aload_n 0, 1, 0, 0, 0, 0), (91, .getfield 42, 3, 11, 4, 582, 1), (94, .aload_n 0, 1, 0, 0, 0, 0), (95, .getfield 55, 3, 11, 6, 584, 1), (98, .invokespecial 61, 3, 1, 3, 406, 0), (101, .putfield 64, 3, 11, 7, 585, 1), (104, .aload_n 0, 1, 0, 0, 0, 0), (105, .new 68, 3, 4, 0, 438, 0), (108, .dup, 1, 0, 0, 0, 0), (109, .aload_n 0, 1, 0, 0, 0, 0), (110, .getfield 42, 3, 11, 4, 582, 1), (113, .aload_n 0, 1, 0, 0, 0, 0), (114, .getfield 55, 3, 11, 6, 584, 1), (117, .invokespecial 70, 3, 4, 3, 440, 0), (120, .putfield 71, 3, 11, 8, 586, 1), (123, .aload_n 0, 1, 0, 0, 0, 0), (124, .new 75, 3, 2, 0, 470, 0), (127, .dup, 1, 0, 0, 0, 0), (128, .aload_n 0, 1, 0, 0, 0, 0), (129, .getfield 42, 3, 11, 4, 582, 1), (132, .aload_n 0, 1, 0, 0, 0, 0), (133, .getfield 55, 3, 11, 6, 584, 1), (136, .invokespecial 77, 3, 2, 3, 472, 0), (139, .putfield 78, 3, 11, 9, 587, 1), (142, .aload_n 0, 1, 0, 0, 0, 0), (143, .new 82, 3, 6, 0, 494, 0), (146, .dup, 1, 0, 0, 0, 0), (147, .aload_n 0, 1, 0, 0, 0, 0), (148, .getfield 42, 3, 11, 4, 582, 1), (151, .aload_n 0, 1, 0, 0, 0, 0), (152, .getfield 55, 3, 11, 6, 584, 1), (155, .invokespecial 84, 3, 6, 3, 496, 0), (158, .putfield 85, 3, 11, 10, 588, 1), (161, .aload_n 0, 1, 0, 0, 0, 0), (162, .new 89, 3, 0, 0, 546, 0), (165, .dup, 1, 0, 0, 0, 0), (166, .aload_n 0, 1, 0, 0, 0, 0), (167, .getfield 42, 3, 11, 4, 582, 1), (170, .aload_n 0, 1, 0, 0, 0, 0), (171, .getfield 55, 3, 11, 6, 584, 1), (174, .invokespecial 91, 3, 0, 3, 548, 0), (177, .putfield 92, 3, 11, 11, 589, 1), (180, .aload_n 0, 1, 0, 0, 0, 0), (181, .iconst (-1), 1, 0, 0, 0, 0), (182, .putfield 96, 3, 11, 12, 590, 0), (185, .aload_n 0, 1, 0, 0, 0, 0), (186, .bipush (-9), 2, 0, 0, 0, 0), (188, .putfield 100, 3, 11, 13, 591, 0), (191, .aload_n 0, 1, 0, 0, 0, 0), (192, .bipush (-9), 2, 0, 0, 0, 0), (194, .putfield 103, 3, 11, 14, 592, 0), (197, .return_, 1, 0, 0, 0, 0)]
def kc_12 : en_c := [(0, .aload_n 0, 1, 0, 0, 0, 0), (1, .invokespecial 7, 3, 99, 0, 1627, 0), (4, .aload_n 0, 1, 0, 0, 0, 0), (5, .sipush 2000, 3, 0, 0, 0, 0), (8, .newarray .byte, 2, 1, 0, 0, 0), (10, .putfield 13, 3, 12, 1, 1695, 1), (13, .aload_n 0, 1, 0, 0, 0, 0), (14, .sipush 2000, 3, 0, 0, 0, 0), (17, .newarray .byte, 2, 1, 0, 0, 0), (19, .putfield 17, 3, 12, 3, 1697, 1), (22, .aload_n 0, 1, 0, 0, 0, 0), (23, .sipush 403, 3, 0, 0, 0, 0), (26, .newarray .int, 2, 0, 0, 0, 0), (28, .putfield 20, 3, 12, 5, 1699, 1), (31, .aload_n 0, 1, 0, 0, 0, 0), (32, .sipush 403, 3, 0, 0, 0, 0), (35, .newarray .int, 2, 0, 0, 0, 0), (37, .putfield 24, 3, 12, 6, 1700, 1), (40, .aload_n 0, 1, 0, 0, 0, 0), (41, .sipush 403, 3, 0, 0, 0, 0), (44, .newarray .int, 2, 0, 0, 0, 0), (46, .putfield 27, 3, 12, 7, 1701, 1), (49, .aload_n 0, 1, 0, 0, 0, 0), (50, .sipush 403, 3, 0, 0, 0, 0), (53, .newarray .long, 2, 3, 0, 0, 0), (55, .putfield 30, 3, 12, 8, 1702, 1), (58, .aload_n 0, 1, 0, 0, 0, 0), (59, .iconst 4, 1, 0, 0, 0, 0), (60, .newarray .long, 2, 3, 0, 0, 0), (62, .putfield 34, 3, 12, 9, 1703, 1), (65, .aload_n 0, 1, 0, 0, 0, 0), (66, .iconst (-1), 1, 0, 0, 0, 0), (67, .putfield 37, 3, 12, 17, 1711, 0), (70, .aload_n 0, 1, 0, 0, 0, 0), (71, .iconst 2, 1, 0, 0, 0, 0), (72, .newarray .int, 2, 0, 0, 0, 0), (74, .putfield 40, 3, 12, 20, 1714, 1), (77, .aload_n 0, 1, 0, 0, 0, 0), (78, .iconst 2, 1, 0, 0, 0, 0), (79, .newarray .int, 2, 0, 0, 0, 0), (81, .putfield 43, 3, 12, 21, 1715, 1), (84, .aload_n 0, 1, 0, 0, 0, 0), (85, .bipush 8, 2, 0, 0, 0, 0), (87, .newarray .long, 2, 3, 0, 0, 0), (89, .putfield 46, 3, 12, 22, 1716, 1), (92, .aload_n 0, 1, 0, 0, 0, 0), (93, .iconst 2, 1, 0, 0, 0, 0), (94, .newarray .int, 2, 0, 0, 0, 0), (96, .putfield 49, 3, 12, 23, 1717, 1), (99, .aload_n 0, 1, 0, 0, 0, 0), (100, .bipush 18, 2, 0, 0, 0, 0), (102, .newarray .int, 2, 0, 0, 0, 0), (104, .putfield 52, 3, 12, 24, 1718, 1), (107, .aload_n 0, 1, 0, 0, 0, 0), (108, .bipush 18, 2, 0, 0, 0, 0), (110, .newarray .int, 2, 0, 0, 0, 0), (112, .putfield 55, 3, 12, 25, 1719, 1), (115, .aload_n 0, 1, 0, 0, 0, 0), (116, .iconst 2, 1, 0, 0, 0, 0), (117, .newarray .int, 2, 0, 0, 0, 0), (119, .putfield 58, 3, 12, 26, 1720, 1), (122, .aload_n 0, 1, 0, 0, 0, 0), (123, .bipush 16, 2, 0, 0, 0, 0), (125, .newarray .int, 2, 0, 0, 0, 0), (127, .putfield 61, 3, 12, 27, 1721, 1), (130, .aload_n 0, 1, 0, 0, 0, 0), (131, .sipush 4096, 3, 0, 0, 0, 0), (134, .newarray .int, 2, 0, 0, 0, 0), (136, .putfield 64, 3, 12, 28, 1722, 1), (139, .aload_n 0, 1, 0, 0, 0, 0), (140, .bipush 8, 2, 0, 0, 0, 0), (142, .newarray .int, 2, 0, 0, 0, 0), (144, .putfield 67, 3, 12, 29, 1723, 1), (147, .aload_n 0, 1, 0, 0, 0, 0), (148, .bipush 8, 2, 0, 0, 0, 0), (150, .newarray .int, 2, 0, 0, 0, 0), (152, .putfield 70, 3, 12, 30, 1724, 1), (155, .aload_n 0, 1, 0, 0, 0, 0), (156, .bipush 8, 2, 0, 0, 0, 0), (158, .newarray .int, 2, 0, 0, 0, 0), (160, .putfield 73, 3, 12, 31, 1725, 1), (163, .aload_n 0, 1, 0, 0, 0, 0), (164, .bipush 8, 2, 0, 0, 0, 0), (166, .newarray .int, 2, 0, 0, 0, 0), (168, .putfield 76, 3, 12, 32, 1726, 1), (171, .aload_n 0, 1, 0, 0, 0, 0), (172, .bipush 8, 2, 0, 0, 0, 0), (174, .newarray .int, 2, 0, 0, 0, 0), (176, .putfield 79, 3, 12, 33, 1727, 1), (179, .aload_n 0, 1, 0, 0, 0, 0), (180, .sipush 900, 3, 0, 0, 0, 0), (183, .newarray .int, 2, 0, 0, 0, 0), (185, .putfield 82, 3, 12, 36, 1730, 1), (188, .aload_n 0, 1, 0, 0, 0, 0), (189, .sipush 900, 3, 0, 0, 0, 0), (192, .newarray .int, 2, 0, 0, 0, 0), (194, .putfield 85, 3, 12, 37, 1731, 1), (197, .aload_n 0, 1, 0, 0, 0, 0), (198, .bipush 6, 2, 0, 0, 0, 0), (200, .newarray .boolean, 2, 2, 0, 0, 0), (202, .putfield 88, 3, 12, 38, 1732, 1), (205, .aload_n 0, 1, 0, 0, 0, 0), (206, .bipush 6, 2, 0, 0, 0, 0), (208, .newarray .boolean, 2, 2, 0, 0, 0), (210, .putfield 92, 3, 12, 39, 1733, 1), (213, .aload_n 0, 1, 0, 0, 0, 0), (214, .bipush 6, 2, 0, 0, 0, 0), (216, .newarray .int, 2, 0, 0, 0, 0), (218, .putfield 95, 3, 12, 40, 1734, 1), (221, .aload_n 0, 1, 0, 0, 0, 0), (222, .bipush 6, 2, 0, 0, 0, 0), (224, .newarray .int, 2, 0, 0, 0, 0), (226, .putfield 98, 3, 12, 41, 1735, 1), (229, .aload_n 0, 1, 0, 0, 0, 0), (230, .bipush 6, 2, 0, 0, 0, 0), (232, .newarray .int, 2, 0, 0, 0, 0), (234, .putfield 101, 3, 12, 42, 1736, 1), (237, .aload_n 0, 1, 0, 0, 0, 0), (238, .sipush 6400, 3, 0, 0, 0, 0), (241, .newarray .int, 2, 0, 0, 0, 0), (243, .putfield 104, 3, 12, 43, 1737, 1), (246, .aload_n 0, 1, 0, 0, 0, 0), (247, .sipush 400, 3, 0, 0, 0, 0), (250, .newarray .int, 2, 0, 0, 0, 0), (252, .putfield 107, 3, 12, 44, 1738, 1), (255, .aload_n 0, 1, 0, 0, 0, 0), (256, .sipush 400, 3, 0, 0, 0, 0), (259, .newarray .int, 2, 0, 0, 0, 0), (261, .putfield 110, 3, 12, 45, 1739, 1), (264, .aload_n 0, 1, 0, 0, 0, 0), (265, .ldc 113, 2, 0, 0, 1628, 140000), (267, .newarray .int, 2, 0, 0, 0, 0), (269, .putfield 114, 3, 12, 46, 1740, 1), (272, .aload_n 0, 1, 0, 0, 0, 0), (273, .sipush 800, 3, 0, 0, 0, 0), (276, .newarray .boolean, 2, 2, 0, 0, 0), (278, .putfield 117, 3, 12, 47, 1741, 1), (281, .aload_n 0, 1, 0, 0, 0, 0), (282, .bipush 18, 2, 0, 0, 0, 0), (284, .newarray .int, 2, 0, 0, 0, 0), (286, .putfield 120, 3, 12, 48, 1742, 1), (289, .aload_n 0, 1, 0, 0, 0, 0), (290, .sipush 256, 3, 0, 0, 0, 0), (293, .newarray .int, 2, 0, 0, 0, 0), (295, .putfield 123, 3, 12, 49, 1743, 1), (298, .aload_n 0, 1, 0, 0, 0, 0), (299, .bipush 18, 2, 0, 0, 0, 0), (301, .newarray .int, 2, 0, 0, 0, 0), (303, .putfield 126, 3, 12, 50, 1744, 1), (306, .aload_n 0, 1, 0, 0, 0, 0), (307, .sipush 256, 3, 0, 0, 0, 0), (310, .newarray .int, 2, 0, 0, 0, 0), (312, .putfield 129, 3, 12, 51, 1745, 1), (315, .aload_n 0, 1, 0, 0, 0, 0), (316, .sipush 2400, 3, 0, 0, 0, 0), (319, .newarray .int, 2, 0, 0, 0, 0), (321, .putfield 132, 3, 12, 53, 1747, 1), (324, .aload_n 0, 1, 0, 0, 0, 0), (325, .sipush 400, 3, 0, 0, 0, 0), (328, .newarray .int, 2, 0, 0, 0, 0), (330, .putfield 135, 3, 12, 54, 1748, 1), (333, .aload_n 0, 1, 0, 0, 0, 0), (334, .sipush 400, 3, 0, 0, 0, 0), (337, .newarray .int, 2, 0, 0, 0, 0), (339, .putfield 138, 3, 12, 55, 1749, 1), (342, .aload_n 0, 1, 0, 0, 0, 0), (343, .sipush 256, 3, 0, 0, 0, 0), (346, .newarray .boolean, 2, 2, 0, 0, 0), (348, .putfield 141, 3, 12, 57, 1751, 1), (351, .aload_n 0, 1, 0, 0, 0, 0), (352, .sipush 256, 3, 0, 0, 0, 0), (355, .newarray .long, 2, 3, 0, 0, 0), (357, .putfield 144, 3, 12, 58, 1752, 1), (360, .aload_n 0, 1, 0, 0, 0, 0), (361, .sipush 256, 3, 0, 0, 0, 0), (364, .newarray .long, 2, 3, 0, 0, 0), (366, .putfield 147, 3, 12, 59, 1753, 1), (369, .aload_n 0, 1, 0, 0, 0, 0), (370, .ldc 150, 2, 0, 0, 1629, 65536), (372, .newarray .boolean, 2, 2, 0, 0, 0), (374, .putfield 151, 3, 12, 60, 1754, 1), (377, .aload_n 0, 1, 0, 0, 0, 0), (378, .sipush 256, 3, 0, 0, 0, 0), (381, .newarray .int, 2, 0, 0, 0, 0), (383, .putfield 154, 3, 12, 61, 1755, 1), (386, .aload_n 0, 1, 0, 0, 0, 0), (387, .sipush 3200, 3, 0, 0, 0, 0), (390, .newarray .int, 2, 0, 0, 0, 0), (392, .putfield 157, 3, 12, 62, 1756, 1), (395, .aload_n 0, 1, 0, 0, 0, 0), (396, .sipush 3200, 3, 0, 0, 0, 0), (399, .newarray .int, 2, 0, 0, 0, 0), (401, .putfield 160, 3, 12, 63, 1757, 1), (404, .aload_n 0, 1, 0, 0, 0, 0), (405, .bipush 8, 2, 0, 0, 0, 0), (407, .newarray .long, 2, 3, 0, 0, 0), (409, .putfield 163, 3, 12, 64, 1758, 1), (412, .aload_n 0, 1, 0, 0, 0, 0), (413, .ldc 166, 2, 0, 0, 1630, 90000), (415, .newarray .int, 2, 0, 0, 0, 0), (417, .putfield 167, 3, 12, 65, 1759, 1), (420, .aload_n 0, 1, 0, 0, 0, 0), (421, .bipush 16, 2, 0, 0, 0, 0), (423, .newarray .int, 2, 0, 0, 0, 0), (425, .putfield 170, 3, 12, 68, 1762, 1), (428, .aload_n 0, 1, 0, 0, 0, 0), (429, .iconst 4, 1, 0, 0, 0, 0), (430, .newarray .int, 2, 0, 0, 0, 0), (432, .putfield 173, 3, 12, 69, 1763, 1), (435, .aload_n 0, 1, 0, 0, 0, 0), (436, .iconst 4, 1, 0, 0, 0, 0), (437, .newarray .int, 2, 0, 0, 0, 0), (439, .putfield 176, 3, 12, 70, 1764, 1), (442, .aload_n 0, 1, 0, 0, 0, 0), (443, .iconst 4, 1, 0, 0, 0, 0), (444, .newarray .int, 2, 0, 0, 0, 0), (446, .putfield 179, 3, 12, 71, 1765, 1), (449, .aload_n 0, 1, 0, 0, 0, 0), (450, .iconst 3, 1, 0, 0, 0, 0), (451, .newarray .boolean, 2, 2, 0, 0, 0), (453, .putfield 182, 3, 12, 72, 1766, 1), (456, .aload_n 0, 1, 0, 0, 0, 0), (457, .sipush 7200, 3, 0, 0, 0, 0), (460, .newarray .int, 2, 0, 0, 0, 0), (462, .putfield 185, 3, 12, 73, 1767, 1)]
def kc_13 : en_c := [(0, .aload_n 0, 1, 0, 0, 0, 0), (1, .iconst 0, 1, 0, 0, 0, 0), (2, .iload_n 1, 1, 1, 0, 0, 0), (3, .iconst 4, 1, 0, 0, 0, 0), (4, .invokestatic 25, 3, 0, 102, 267, 0), (7, .invokestatic 31, 3, 0, 101, 270, 0), (10, .putfield 34, 3, 5, 0, 273, 0), (13, .aload_n 0, 1, 0, 0, 0, 0), (14, .iconst 0, 1, 0, 0, 0, 0), (15, .iload_n 2, 1, 2, 0, 0, 0), (16, .bipush 7, 2, 0, 0, 0, 0), (18, .invokestatic 25, 3, 0, 102, 267, 0), (21, .invokestatic 31, 3, 0, 101, 270, 0), (24, .putfield 38, 3, 5, 1, 274, 0), (27, .aload_n 0, 1, 0, 0, 0, 0), (28, .iload_n 3, 1, 3, 0, 0, 0), (29, .iconst 2, 1, 0, 0, 0, 0), (30, .if_icmp .ge 8, 3, 38, 0, 0, 0), (33, .bipush 97, 2, 0, 0, 0, 0), (35, .goto 4, 3, 39, 0, 0, 0), (38, .iload_n 3, 1, 3, 0, 0, 0), (39, .putfield 41, 3, 5, 2, 275, 0), (42, .iconst 1, 1, 0, 0, 0, 0), (43, .istore 4, 2, 4, 0, 0, 0), (45, .iconst 0, 1, 0, 0, 0, 0), (46, .istore 5, 2, 5, 0, 0, 0), (48, .iload 5, 2, 5, 0, 0, 0), (50, .bipush 7, 2, 0, 0, 0, 0), (52, .if_icmp .gt 108, 3, 160, 0, 0, 0), (55, .aload_n 0, 1, 0, 0, 0, 0), (56, .getfield 9, 3, 5, 3, 276, 1), (59, .iload 5, 2, 5, 0, 0, 0), (61, .iload 5, 2, 5, 0, 0, 0), (63, .aload_n 0, 1, 0, 0, 0, 0), (64, .getfield 38, 3, 5, 1, 274, 0), (67, .if_icmp .gt 8, 3, 75, 0, 0, 0), (70, .iload 4, 2, 4, 0, 0, 0), (72, .goto 4, 3, 76, 0, 0, 0), (75, .iconst 0, 1, 0, 0, 0, 0), (76, .iastore, 1, 0, 0, 0, 0), (77, .aload_n 0, 1, 0, 0, 0, 0), (78, .getfield 15, 3, 5, 4, 277, 1), (81, .iload 5, 2, 5, 0, 0, 0), (83, .iconst 1, 1, 0, 0, 0, 0), (84, .iadd, 1, 0, 0, 0, 0), (85, .aload_n 0, 1, 0, 0, 0, 0), (86, .getfield 15, 3, 5, 4, 277, 1), (89, .iload 5, 2, 5, 0, 0, 0), (91, .iaload, 1, 0, 0, 0, 0), (92, .aload_n 0, 1, 0, 0, 0, 0), (93, .getfield 9, 3, 5, 3, 276, 1), (96, .iload 5, 2, 5, 0, 0, 0), (98, .iaload, 1, 0, 0, 0, 0), (99, .iadd, 1, 0, 0, 0, 0), (100, .sipush 364, 3, 0, 0, 0, 0), (103, .invokestatic 25, 3, 0, 102, 267, 0), (106, .iastore, 1, 0, 0, 0, 0), (107, .iload 4, 2, 4, 0, 0, 0), (109, .aload_n 0, 1, 0, 0, 0, 0), (110, .getfield 34, 3, 5, 0, 273, 0), (113, .imul, 1, 0, 0, 0, 0), (114, .istore 4, 2, 4, 0, 0, 0), (116, .aload_n 0, 1, 0, 0, 0, 0), (117, .getfield 15, 3, 5, 4, 277, 1), (120, .iload 5, 2, 5, 0, 0, 0), (122, .iaload, 1, 0, 0, 0, 0), (123, .istore 6, 2, 6, 0, 0, 0), (125, .iload 6, 2, 6, 0, 0, 0), (127, .aload_n 0, 1, 0, 0, 0, 0), (128, .getfield 15, 3, 5, 4, 277, 1), (131, .iload 5, 2, 5, 0, 0, 0), (133, .iconst 1, 1, 0, 0, 0, 0), (134, .iadd, 1, 0, 0, 0, 0), (135, .iaload, 1, 0, 0, 0, 0), (136, .if_icmp .ge 18, 3, 154, 0, 0, 0), (139, .aload_n 0, 1, 0, 0, 0, 0), (140, .getfield 18, 3, 5, 5, 278, 1), (143, .iload 6, 2, 6, 0, 0, 0), (145, .iload 5, 2, 5, 0, 0, 0), (147, .iastore, 1, 0, 0, 0, 0), (148, .iinc 6 1, 3, 0, 0, 0, 0), (151, .goto (-26), 3, 125, 0, 0, 0), (154, .iinc 5 1, 3, 0, 0, 0, 0), (157, .goto (-109), 3, 48, 0, 0, 0), (160, .return_, 1, 0, 0, 0, 0)]
def ci_T (z : Nat) : en_c := [kc_0, kc_1, kc_2, kc_3, kc_4, kc_5, kc_6, kc_7, kc_8, kc_9, kc_10, kc_11, kc_12, kc_13].getD z []
abbrev ci_d : Type := MethodName × ByteArray × Nat × (Nat × Nat × Nat × Nat) × Nat × Nat × Nat × Nat × Nat × Nat
def ci_D (z : Nat) : ci_d := [(⟨"WordAlgebra$Elements", "<init>", "(LWordAlgebra$Shape;LWordAlgebra$Nought;)V"⟩, prog_2_method_1_code, 3, (1, 30, 30, 9855), 3, 74, 550, 549, 162, 0), (⟨"WordAlgebra$Machine", "<init>", "(LWordAlgebra$Shape;LWordAlgebra$Nought;)V"⟩, prog_3_method_1_code, 3, (1, 30, 7, 6229), 3, 72, 408, 407, 158, 0), (⟨"WordAlgebra$Mirror", "<init>", "(LWordAlgebra$Shape;LWordAlgebra$Nought;)V"⟩, prog_4_method_1_code, 3, (2, 51, 27, 74962), 3, 34, 474, 473, 160, 0), (⟨"WordAlgebra$Nought", "<init>", "(LWordAlgebra$Shape;)V"⟩, prog_5_method_1_code, 2, (1, 30, 25, 74934), 2, 94, 363, 362, 157, 0), (⟨"WordAlgebra$Ranks", "<init>", "(LWordAlgebra$Shape;LWordAlgebra$Nought;)V"⟩, prog_6_method_1_code, 3, (1, 30, 85, 6885), 3, 50, 442, 441, 159, 0), (⟨"WordAlgebra$Shape", "<init>", "()V"⟩, prog_7_method_1_code, 1, (2, 56, 3, 381), 1, 38, 261, 260, 154, 0), (⟨"WordAlgebra$Squares", "<init>", "(LWordAlgebra$Shape;LWordAlgebra$Nought;)V"⟩, prog_8_method_1_code, 3, (1, 30, 11, 31919), 3, 112, 498, 497, 161, 0), (⟨"WordAlgebra$Sums", "<init>", "()V"⟩, prog_9_method_1_code, 1, (3, 76, 19, 4411), 1, 62, 253, 252, 153, 0), (⟨"WordAlgebra$Tape", "<init>", "()V"⟩, prog_10_method_1_code, 1, (1, 30, 1, 2000), 1, 13, 182, 181, 151, 0), (⟨"WordAlgebra$Telling", "<init>", "(LWordAlgebra$Sums;)V"⟩, prog_11_method_1_code, 2, (3, 76, 16, 2819), 2, 57, 315, 314, 156, 0), (⟨"WordAlgebra$Tokens", "<init>", "()V"⟩, prog_12_method_1_code, 1, (1, 30, 4, 1600), 1, 40, 196, 195, 152, 0), (⟨"WordAlgebra", "<init>", "()V"⟩, prog_1_method_1_code, 1, (4, 97, 240, 216098), 1, 197, 174, 173, 150, 0), (⟨"WordAlgebraModel", "<init>", "()V"⟩, prog_14_method_2_code, 1, (12, 470, 55, 333597), 1, 564, 1626, 1625, 163, 0), (⟨"WordAlgebra$Shape", "become", "(III)V"⟩, prog_7_method_2_code, 7, (1, 30, 0, 0), 4, 160, 266, 264, 154, 265)].getD z (⟨"", "", ""⟩, ⟨#[]⟩, 0, (0, 0, 0, 0), 0, 0, 0, 0, 0, 0)
def ci_zs (a : Nat) : List (Option en_v) := [[none, none, none, none, none, none, none, none], [none, none, none, none, none, none, none, none, none], [none, none, none, none, some (.inl 0)], [none, none, none, some (.inl 0), none, none, none, none, none, none, none, some (.inl 0)], [none, none, none, none, none, none, some (.inl 0), some (.inl 0)], [some (.inl 0), some (.inl 0), some (.inl 0), none, none, none], [none, none, none, none, none, none, none, none, some (.inl 0), some (.inl 0), none, none, none, none, none], [none, none, none, none, none, none], [none, some (.inl 0)], [none, none, none, none, none, none, some (.inl 0), some (.inl 0), some (.inl 0), some (.inl 0), some (.inl 0), some (.inl 0)], [none, none, none, none, some (.inl 0), some (.inl 0), some (.inl 0), some (.inl 0), some (.inl 0), some (.inl 0), some (.inl 0), some (.inl 0), some (.inl 0), some (.inl 0), some (.inl 0), some (.inr (.inl 0))], [none, none, none, none, none, none, none, none, none, none, none, none, some (.inl 0), some (.inl 0), some (.inl 0)], [some (.inl 0), none, some (.inl 0), none, some (.inl 0), none, none, none, none, none, some (.inl 0), some (.inl 0), some (.inl 0), some (.inl 0), some (.inl 0), some (.inl 0), some (.inl 0), some (.inl 0), some (.inl 0), some (.inl 0), none, none, none, none, none, none, none, none, none, none, none, none, none, none, some (.inl 0), some (.inl 0), none, none, none, none, none, none, none, none, none, none, none, none, none, none, none, none, some (.inl 0), none, none, none, some (.inl 0), none, none, none, none, none, none, none, none, none, some (.inl 0), some (.inl 0), none, none, none, none, none, none]].getD a []
def ci_w1 (a : Nat) : Nat := [547, 405, 471, 360, 439, 258, 495, 250, 179, 312, 193, 171, 1623].getD a 0
def ci_w2 (a : Nat) : Nat := [162, 158, 160, 157, 159, 154, 161, 153, 151, 156, 152, 150, 163].getD a 0
def ci_w3 (a : Nat) : Nat := [247, 191, 1917, 248].getD a 0
def ci_wo : Nat := 176
def ci_wc : Nat := 177
def ci_ne : List (Nat × MethodName) := [(9, ⟨"WordAlgebra$Tape", "<init>", "()V"⟩), (18, ⟨"WordAlgebra$Tokens", "<init>", "()V"⟩), (25, ⟨"WordAlgebra$Sums", "<init>", "()V"⟩)]
abbrev ci_c : Type := (Nat × List (Option en_v)) ⊕ (Nat × Nat × Nat × List Int)
def ci_ad (sz : Nat) : Nat → Int → Nat := fun k _ => sz + k
def ci_vl (sz : Nat) : Option en_v → Value
  | some v => en_rv (ci_ad sz) v
  | none => .null
def ci_ar (sz : Nat) (cA : Nat → ClassId) : Nat × Nat × Nat × List Int → ClassId × vp_A
  | (0, n, _, xs) => (cA 0, n, .inl (fun j => Int32.ofInt (xs.getD j 0)))
  | (3, n, _, _) => (cA 3, n, .inr (.inl (fun _ => 0)))
  | (4, n, k, _) => (cA 4, n, .inr (.inr (.inr (.inr (fun j => some (sz + k + j))))))
  | (t, n, _, _) => (cA t, n, .inl (fun _ => 0))
def ci_en (sz : Nat) (cA : Nat → ClassId) : ci_c → va_E
  | .inl x => .inr (x.1, x.2.map (ci_vl sz))
  | .inr x => .inl (ci_ar sz cA x)
def ci_W (sz : Nat) (cA : Nat → ClassId) (C : List ci_c) : va_W := C.mapIdx (fun i x => (sz + i, ci_en sz cA x))
def ci_s1 : ci_c → Nat
  | .inl x => x.2.length
  | .inr x => x.2.1
def ci_sz (C : List ci_c) : Nat := (C.map ci_s1).sum
def ci_up : List Int → Nat → Int → List Int
  | [], 0, v => [v]
  | [], j + 1, v => 0 :: ci_up [] j v
  | _ :: r, 0, v => v :: r
  | x :: r, j + 1, v => x :: ci_up r j v
def ci_kd : en_v → Int → Bool
  | .inl _, x => decide (x = 0)
  | .inr (.inr _), x => decide (x = 1)
  | _, _ => false
abbrev ci_x : Type := Nat × en_l × List en_v × List ci_c
def ci_st (q : en_q) (ls : en_l) (st : List en_v) (C : List ci_c) (NM SM : Nat) : Option ci_x := match q with
  | (pc, i, len, a, b, _, x) => match i with
    | .aload_n _ => (match en_get ls a with
      | some (.inr (.inr r)) => some (pc + len, ls, .inr (.inr r) :: st, C)
      | _ => none)
    | .iload_n _ | .iload _ => (match en_get ls a with
      | some (.inl r) => some (pc + len, ls, .inl r :: st, C)
      | _ => none)
    | .istore _ => (match st with
      | .inl v :: r => some (pc + len, en_s1 ls a (.inl v), r, C)
      | _ => none)
    | .iconst n | .bipush n | .sipush n => some (pc + len, ls, .inl n :: st, C)
    | .ldc _ => some (pc + len, ls, .inl x :: st, C)
    | .iadd => (match st with
      | .inl v :: .inl u :: r => some (pc + len, ls, .inl (u + v) :: r, C)
      | _ => none)
    | .imul => (match st with
      | .inl v :: .inl u :: r => some (pc + len, ls, .inl (u * v) :: r, C)
      | _ => none)
    | .dup => (match st with
      | .inr (.inr u) :: r => some (pc + len, ls, .inr (.inr u) :: .inr (.inr u) :: r, C)
      | _ => none)
    | .goto _ => some (a, ls, st, C)
    | .iinc n c => (match en_get ls n with
      | some (.inl v) => some (pc + len, en_s1 ls n (.inl (v + c)), st, C)
      | _ => none)
    | .if_icmp .gt _ => (match st with
      | .inl v :: .inl u :: r => some (if w32 v < w32 u then a else pc + len, ls, r, C)
      | _ => none)
    | .if_icmp .ge _ => (match st with
      | .inl v :: .inl u :: r => some (if w32 v ≤ w32 u then a else pc + len, ls, r, C)
      | _ => none)
    | .invokestatic _ => (match st with
      | .inl v :: .inl u :: r => bif Nat.ble r.length 8 then (bif Nat.beq b 101 then some (pc + len, ls, .inl (if w32 u < w32 v then v else u) :: r, C) else bif Nat.beq b 102 then some (pc + len, ls, .inl (if w32 v < w32 u then v else u) :: r, C) else none) else none
      | _ => none)
    | .new _ => if C.length + 1 ≤ NM ∧ ci_sz C + (ci_zs a).length ≤ SM then some (pc + len, ls, .inr (.inr (C.length, 0)) :: st, C ++ [.inl (a, ci_zs a)]) else none
    | .newarray _ => (match st with
      | .inl n :: r => if (0 ≤ n ∧ n ≤ 1000000) ∧ C.length + 1 ≤ NM ∧ ci_sz C + n.toNat ≤ SM then some (pc + len, ls, .inr (.inr (C.length, 0)) :: r, C ++ [.inr (a, n.toNat, 0, [])]) else none
      | _ => none)
    | .multianewarray _ _ => (match st with
      | .inl M :: .inl N :: r => if ((0 ≤ N ∧ N < 1000) ∧ 0 ≤ M ∧ M < 1000) ∧ C.length + (1 + N.toNat) ≤ NM ∧ ci_sz C + (N.toNat + N.toNat * M.toNat) ≤ SM then some (pc + len, ls, .inr (.inr (C.length, 0)) :: r, C ++ (.inr (4, N.toNat, C.length + 1, []) :: List.replicate N.toNat (.inr (0, M.toNat, 0, [])))) else none
      | _ => none)
    | .getfield _ => (match st with
      | .inr (.inr (k, _)) :: r => (match C[k]? with
        | some (.inl (c, fs)) => bif Nat.beq c a then (match fs[b]? with
          | some (some v) => some (pc + len, ls, v :: r, C)
          | _ => none) else none
        | _ => none)
      | _ => none)
    | .putfield _ => (match st with
      | v :: .inr (.inr (k, _)) :: r => (match C[k]? with
        | some (.inl (c, fs)) => bif Nat.beq c a && (Nat.blt b fs.length && ci_kd v x) then some (pc + len, ls, r, C.set k (.inl (c, fs.set b (some v)))) else none
        | _ => none)
      | _ => none)
    | .iaload => (match st with
      | .inl j :: .inr (.inr (k, _)) :: r => (match C[k]? with
        | some (.inr (0, n, _, xs)) => if 0 ≤ w32 j ∧ w32 j < n then some (pc + len, ls, .inl (xs.getD (w32 j).toNat 0) :: r, C) else none
        | _ => none)
      | _ => none)
    | .iastore => (match st with
      | .inl v :: .inl j :: .inr (.inr (k, _)) :: r => (match C[k]? with
        | some (.inr (0, n, k2, xs)) => if 0 ≤ w32 j ∧ w32 j < n then some (pc + len, ls, r, C.set k (.inr (0, n, k2, ci_up xs (w32 j).toNat v))) else none
        | _ => none)
      | _ => none)
    | _ => none
abbrev ci_y (z : Nat) : MethodName := (ci_D z).1
abbrev ci_B (z : Nat) : ByteArray := (ci_D z).2.1
abbrev ci_mL (z : Nat) : Nat := (ci_D z).2.2.1
abbrev ci_fr (z : Nat) : Nat := (ci_D z).2.2.2.1.1
abbrev ci_lo (z : Nat) : Nat := (ci_D z).2.2.2.1.2.1
abbrev ci_ce (z : Nat) : Nat := (ci_D z).2.2.2.1.2.2.1
abbrev ci_sl (z : Nat) : Nat := (ci_D z).2.2.2.1.2.2.2
abbrev ci_na (z : Nat) : Nat := (ci_D z).2.2.2.2.1
abbrev ci_rp (z : Nat) : Nat := (ci_D z).2.2.2.2.2.1
def ci_stop (z : Nat) : Nat := bif Nat.beq z 12 then 465 else ci_rp z
def ci_dn (NM SM : Nat) (o : Option (en_l × List en_v × List ci_c)) : Option (List ci_c) := match o with
  | some (_, [], C) => bif Nat.beq C.length NM && Nat.beq (ci_sz C) SM then some C else none
  | _ => none
def ci_obj (q : en_q) : Bool := match q.2.1 with
  | .invokespecial _ => Nat.beq q.2.2.2.1 99
  | _ => false
def ci_call (q : en_q) : Bool := match q.2.1 with
  | .invokespecial _ => !Nat.beq q.2.2.2.1 99
  | .invokevirtual _ => true
  | _ => false
def ci_rc (q : en_q) (C : List ci_c) (k : Nat) : Bool := match q.2.1 with
  | .invokevirtual _ => (match C[k]? with
    | some (.inl (c, _)) => Nat.beq c 5
    | _ => false)
  | _ => true
/-- a run to the method's end (of the model's constructor: to where it has made all) -/
def ci_ev : Nat → Nat → Nat → Nat → Nat → en_l → List en_v → List ci_c → Option (en_l × List en_v × List ci_c)
  | 0, _, _, _, _, _, _, _ => none
  | n + 1, z, NM, SM, pc, ls, st, C => bif Nat.beq pc (ci_stop z) then some (ls, st, C) else match en_at (ci_T z) pc with
    | none => none
    | some q => bif ci_call q then (match en_pop q.2.2.2.2.1 st [] with
        | some (.inr (.inr k) :: as, r) => bif ((Nat.ble (en_sum r) 8 && Nat.ble (en_sum (.inr (.inr k) :: as)) (ci_mL q.2.2.2.1)) && ci_rc q C k.1) && (Nat.ble (C.length + ci_ce q.2.2.2.1) NM && Nat.ble (ci_sz C + ci_sl q.2.2.2.1) SM) then (match ci_dn (C.length + ci_ce q.2.2.2.1) (ci_sz C + ci_sl q.2.2.2.1) (ci_ev n q.2.2.2.1 (C.length + ci_ce q.2.2.2.1) (ci_sz C + ci_sl q.2.2.2.1) 0 (en_pad (ci_mL q.2.2.2.1) (en_args (.inr (.inr k) :: as))) [] C) with
          | some C1 => ci_ev n z NM SM (pc + 3) ls r C1
          | none => none) else none
        | _ => none) else bif ci_obj q then (match st with
        | .inr (.inr _) :: r => bif Nat.ble (en_sum r) 8 then ci_ev n z NM SM (pc + 3) ls r C else none
        | _ => none) else (match ci_st q ls st C NM SM with
        | some y => ci_ev n z NM SM y.1 y.2.1 y.2.2.1 y.2.2.2
        | none => none)
theorem ci_W_get (sz : Nat) (cA : Nat → ClassId) (C : List ci_c) (k : Nat) : (ci_W sz cA C)[k]? = (C[k]?).map (fun x => (sz + k, ci_en sz cA x)) := by
  unfold ci_W
  rw [List.getElem?_mapIdx]
theorem ci_W_at {sz : Nat} {cA : Nat → ClassId} {C : List ci_c} {k : Nat} {x : ci_c} (h : C[k]? = some x) : (ci_W sz cA C)[k]? = some (sz + k, ci_en sz cA x) := by
  rw [ci_W_get, h]; rfl
theorem ci_D_ok (sz : Nat) (cA : Nat → ClassId) (C : List ci_c) : va_D (fun q => sz ≤ q) (ci_W sz cA C) := by
  refine ⟨fun i j p q hi hj e => ?_, fun k q hk => ?_⟩
  · rw [ci_W_get] at hi hj
    cases h1 : C[i]? with
    | none => rw [h1] at hi; cases hi
    | some x =>
      cases h2 : C[j]? with
      | none => rw [h2] at hj; cases hj
      | some y =>
        rw [h1] at hi
        rw [h2] at hj
        cases hi
        cases hj
        have e : sz + i = sz + j := e
        omega
  · rw [ci_W_get] at hk
    cases h1 : C[k]? with
    | none => rw [h1] at hk; cases hk
    | some x => rw [h1] at hk; cases hk; exact Nat.le_add_right _ _
theorem ci_W_set {sz : Nat} {cA : Nat → ClassId} {C : List ci_c} {k : Nat} (x : ci_c) : (ci_W sz cA C).set k (sz + k, ci_en sz cA x) = ci_W sz cA (C.set k x) := by
  apply List.ext_getElem?
  intro i
  rw [List.getElem?_set, ci_W_get, ci_W_get, List.getElem?_set]
  have hl : (ci_W sz cA C).length = C.length := by unfold ci_W; exact List.length_mapIdx
  rw [hl]
  by_cases e : k = i
  · subst e
    rw [if_pos rfl, if_pos rfl]
    by_cases h : k < C.length
    · rw [if_pos h, if_pos h]; rfl
    · rw [if_neg h, if_neg h]; rfl
  · rw [if_neg e, if_neg e]
theorem ci_sz_set {C : List ci_c} {k : Nat} {x y : ci_c} (h : C[k]? = some x) (e : ci_s1 y = ci_s1 x) : ci_sz (C.set k y) = ci_sz C := by
  unfold ci_sz
  congr 1
  apply List.ext_getElem?
  intro i
  rw [List.getElem?_map, List.getElem?_map, List.getElem?_set]
  by_cases q : k = i
  · subst q
    rw [if_pos rfl, if_pos (List.getElem?_eq_some_iff.mp h).1, h]
    exact congrArg some e
  · rw [if_neg q]
theorem ci_sz_app (C Y : List ci_c) : ci_sz (C ++ Y) = ci_sz C + ci_sz Y := by
  unfold ci_sz
  rw [List.map_append, List.sum_append_nat]
theorem ci_up_get : ∀ (xs : List Int) (j : Nat) (v : Int) (i : Nat), (ci_up xs j v).getD i 0 = if i = j then v else xs.getD i 0
  | [], 0, v, i => by
    cases i with
    | zero => rfl
    | succ i => rw [if_neg (by omega)]; rfl
  | [], j + 1, v, i => by
    cases i with
    | zero => rw [if_neg (by omega)]; rfl
    | succ i =>
      show (ci_up [] j v).getD i 0 = _
      rw [ci_up_get [] j v i]
      by_cases e : i = j
      · rw [if_pos e, if_pos (by omega)]
      · rw [if_neg e, if_neg (by omega)]; rfl
  | x :: r, 0, v, i => by
    cases i with
    | zero => rfl
    | succ i => rw [if_neg (by omega)]; rfl
  | x :: r, j + 1, v, i => by
    cases i with
    | zero => rw [if_neg (by omega)]; rfl
    | succ i =>
      show (ci_up r j v).getD i 0 = _
      rw [ci_up_get r j v i]
      by_cases e : i = j
      · rw [if_pos e, if_pos (by omega)]
      · rw [if_neg e, if_neg (by omega)]; rfl
/-- new cells behind the old -/
theorem ci_push {D : va_G} {sz : Nat} {cA : Nat → ClassId} {C Y : List ci_c} {H H1 : Heap} (hP : va_P D classes (ci_W sz cA C) H) (hz : H.size = sz + C.length) (old : ∀ q : Nat, q < H.size → H1[q]? = H[q]?) (new : ∀ (j : Nat) (x : ci_c), Y[j]? = some x → va_at D classes (H.size + j, ci_en sz cA x) H1) : va_P D classes (ci_W sz cA (C ++ Y)) H1 := by
  intro k q hk
  rw [ci_W_get] at hk
  by_cases h : k < C.length
  · rw [List.getElem?_append_left h] at hk
    cases h1 : C[k]? with
    | none => rw [h1] at hk; cases hk
    | some x =>
      rw [h1] at hk
      cases hk
      exact (hP k _ (ci_W_at h1)).kept (old _ (by show sz + k < _; omega))
  · rw [List.getElem?_append_right (by omega)] at hk
    cases h1 : Y[k - C.length]? with
    | none => rw [h1] at hk; cases hk
    | some x =>
      rw [h1] at hk
      cases hk
      have := new _ x h1
      rw [show H.size + (k - C.length) = sz + k by omega] at this
      exact this
def ci_Q (U : State) : Prop := (Cond.arrayOver (.array .int)).before #[] U = true ∧ ∀ q ∈ ci_ne, va_Nw (.methodLinkNest "WordAlgebra" q.1 q.2 "WordAlgebra") U
theorem ci_Q_same {u U : State} (hv : U.vm = u.vm) (h : ci_Q u) : ci_Q U := by
  have ha : u.vm.Alike U.vm := by rw [hv]; exact Vm.Alike.refl u.vm
  exact ⟨over_moved ha h.1, fun q hq => va_Nw.same rfl hv.symm (h.2 q hq)⟩
theorem ci_Q_warm {s U : State} (hW : s.WarmedH U.vm) (h : ci_Q s) : ci_Q U := ⟨over_moved hW.alike h.1, fun q hq => va_Nw.warmM hW (h.2 q hq)⟩
def ci_cn (a : Nat) : String := match classes[a]? with
  | some q => q.1
  | none => ""
def ci_dk : FieldType → Option en_v → Bool
  | .int, some (.inl v) | .boolean, some (.inl v) | .byte, some (.inl v) => decide (v = 0)
  | .long, some (.inr (.inl v)) => decide (v = 0)
  | .object _, none => true
  | .array _, none => true
  | _, _ => false
theorem ci_dk_ok {t : FieldType} {o : Option en_v} {sz : Nat} (h : ci_dk t o = true) : defaultValue t = ci_vl sz o := by
  unfold ci_dk at h
  split at h <;> first
    | (have h := of_decide_eq_true h; subst h; rfl)
    | rfl
    | cases h
def ci_new (a : Nat) : Bool := Nat.blt a 13 && (en_wd (ci_w1 a) (.instantiable (ci_cn a) (en_fN a)) && en_wd (ci_w2 a) (.initialized (ci_cn a)) && Nat.beq (ci_zs a).length (en_fN a) && (List.range (en_fN a)).all (fun k => match parseFieldDescriptor (en_fld a k).2.2.1 with
  | some t => ci_dk t ((ci_zs a).getD k none)
  | none => false))
def ci_aty : Nat → ArrayType → Bool
  | 0, .int => true
  | 1, .byte => true
  | 2, .boolean => true
  | 3, .long => true
  | _, _ => false
def ci_pf (z a b : Nat) (x : Int) : Bool := (bif (en_fld a b).2.2.2 then Nat.blt z 13 && decide ((en_fld a b).1 = (ci_y z).cls) else true) && (match parseFieldDescriptor (en_fld a b).2.2.1 with
  | some .int => decide (x = 0)
  | some (.object _) => decide (x = 1)
  | some (.array _) => decide (x = 1)
  | _ => false)
def ci_chk (z : Nat) (q : en_q) : Bool := match q with
  | (pc, i, len, a, b, j, x) => decide (decode (ci_B z) pc = .ok (i, len)) && (match i with
    | .aload_n k | .iload_n k => Nat.beq len 1 && Nat.beq k.val a
    | .iload k => Nat.beq len 2 && Nat.beq k a
    | .istore k => Nat.beq len 2 && (Nat.beq k a && Nat.blt a (ci_mL z))
    | .iconst _ => Nat.beq len 1
    | .bipush n => Nat.beq len 2 && decide ((Int8.ofInt n).toInt32 = Int32.ofInt n)
    | .sipush n => Nat.beq len 3 && decide ((Int16.ofInt n).toInt32 = Int32.ofInt n)
    | .ldc idx => Nat.beq len 2 && en_wd j (.constant (ci_y z).cls idx (Int32.ofInt x))
    | .iadd | .imul | .dup | .iaload | .iastore => Nat.beq len 1
    | .goto off => Nat.beq len 3 && decide ((pc : Int) + off = (a : Int))
    | .iinc n _ => Nat.beq len 3 && Nat.blt n (ci_mL z)
    | .if_icmp _ off => Nat.beq len 3 && decide ((pc : Int) + off = (a : Int))
    | .invokestatic idx => Nat.beq len 3 && ((Nat.ble 1 (ci_fr z) && Nat.ble 30 (ci_lo z)) && (bif Nat.beq b 101 then en_wd j (.methodLink (ci_y z).cls idx Lib.Math.max.name) else bif Nat.beq b 102 then en_wd j (.methodLink (ci_y z).cls idx Lib.Math.min.name) else false))
    | .new idx => Nat.beq len 3 && (en_wd j (.classLink (ci_y z).cls idx (ci_cn a)) && ci_new a)
    | .newarray ty => Nat.beq len 2 && (en_wd (ci_w3 a) (.arrayClass (newarray.typeOf ty)) && ci_aty a ty)
    | .multianewarray idx d => Nat.beq len 4 && (Nat.beq d 2 && (en_wd j (.classLink (ci_y z).cls idx "[[I") && en_wd (ci_w3 0) (.arrayClass .int)))
    | .getfield idx => Nat.beq len 3 && (en_wd j (.fieldLink (ci_y z).cls idx (en_fld a b).1 (en_fld a b).2.1 (en_fld a b).2.2.1) && Nat.blt b (en_fN a))
    | .putfield idx => Nat.beq len 3 && (en_wd j (.fieldLink (ci_y z).cls idx (en_fld a b).1 (en_fld a b).2.1 (en_fld a b).2.2.1) && (Nat.blt b (en_fN a) && ci_pf z a b x))
    | .invokespecial idx => Nat.beq len 3 && (bif Nat.beq a 99 then en_wd j (.methodLink (ci_y z).cls idx Lib.objectInit) && (Nat.ble 1 (ci_fr z) && Nat.ble 30 (ci_lo z)) else Nat.blt a 12 && (Nat.beq b (ci_na a) && ((Nat.ble (ci_fr a + 1) (ci_fr z) && Nat.ble (8 + (ci_mL a + 11) + ci_lo a) (ci_lo z)) && (bif decide (x = 1) then decide ((ci_y z).cls = "WordAlgebra") && ci_ne.any (fun q => decide (q = (idx, ci_y a))) else en_wd j (.methodLink (ci_y z).cls idx (ci_y a))))))
    | .invokevirtual idx => Nat.beq len 3 && (Nat.beq a 13 && (Nat.beq b (ci_na a) && ((Nat.ble (ci_fr a + 1) (ci_fr z) && Nat.ble (8 + (ci_mL a + 11) + ci_lo a) (ci_lo z)) && en_wd j (.methodLink (ci_y z).cls idx (ci_y a)))))
    | .return_ => Nat.beq len 1
    | _ => false)
def ci_mchk (a : Nat) : Bool := (en_wd (ci_D a).2.2.2.2.2.2.1 (.code (ci_y a) (ci_B a) (ci_mL a) none) && en_wd (ci_D a).2.2.2.2.2.2.2.1 (.instanceMethod (ci_y a)) && en_wd (ci_D a).2.2.2.2.2.2.2.2.1 (.initialized (ci_y a).cls)) && ((decide ((ci_y a).cls ≠ "java/lang/invoke/MethodHandle") && decide ((ci_y a).cls ≠ "java/lang/invoke/VarHandle")) && decide ((parseMethodDescriptor (ci_y a).desc).map (fun d => d.parameters.length) = some (ci_na a - 1)) && plainName (ci_y a).cls && Nat.blt 0 (ci_na a)) && (bif Nat.beq a 13 then en_wd (ci_D a).2.2.2.2.2.2.2.2.2 (.selects (ci_y a).cls (ci_y a) (ci_y a)) else decide ((ci_y a).name = "<init>")) && decide (decode (ci_B a) (ci_rp a) = .ok (.return_, 1))
/-- what is asked of the constructors' tables; decided in a part of its own -/
def ci_OK : Prop := (∀ z : Nat, z < 14 → ∀ q ∈ ci_T z, ci_chk z q = true) ∧ (∀ z : Nat, z < 14 → ci_mchk z = true) ∧ (Cond.instanceMethod Lib.objectInit ∈ en_tb ∧ Cond.code Lib.objectInit ⟨#[0xb1]⟩ 1 none ∈ en_tb)
def ci_E (z : Nat) (p : Program) (s : State) (m : MethodId) (args : Array Value) (meth : Method) (c : Code) (R : Room) : Prop := p.tables.exec = Jvm.exec ∧ c.code = ci_B z ∧ c.maxLocals = ci_mL z ∧ s.vm.findClass (ci_y z).cls = some m.cls ∧ (∀ w ∈ en_tb, w.before args s = true) ∧ (z < 13 → meth.name = "<init>") ∧ R.frames = ci_fr z ∧ R.locals = ci_lo z
def ci_S (sz : Nat) (cA : Nat → ClassId) (D : va_G) (H0 : Heap) (n : Nat) (lsA : Array Slot) (ls : en_l) (H : Heap) (locs : List Loc) (C : List ci_c) : Prop := H.size = sz + C.length ∧ va_P D classes (ci_W sz cA C) H ∧ va_S (fun q => sz ≤ q) H0 H locs ∧ en_lh (ci_ad sz) lsA n ls
section CIS
variable {p : Program} {l : Launch} {e : Env} {R : Room} {s : State} {m : MethodId} {args : Array Value} {below : List Frame} {meth : Method} {c : Code} {H H0 : Heap} {locs : List Loc} {cells slots : Nat} {Q : State → Prop} {z sz : Nat} {cA : Nat → ClassId} {D : va_G} {lsA : Array Slot}
theorem ci_cs {g : JFrame} {a b : Nat} (h1 : a = cells) (h2 : b = slots) (k : W p l e R s m args below meth c H locs a b Q g) : W p l e R s m args below meth c H locs cells slots Q g := by
  subst h1; subst h2; exact k
theorem ci_fs {a b : Nat} (h : Nat.blt b (en_fN a) = true) : ∃ q : vw_C, classes[a]? = some q ∧ b < q.2.2 ∧ en_fld a b = q.2.1 b ∧ ci_cn a = q.1 ∧ en_fN a = q.2.2 := by
  unfold en_fN at h
  unfold en_fld ci_cn en_fN
  cases hc : classes[a]? with
  | none => rw [hc] at h; cases h
  | some q => rw [hc] at h; exact ⟨q, rfl, Nat.le_of_ble_eq_true h, rfl, rfl, rfl⟩
/-- the heap has just the cells that were made -/
theorem ci_szW {n0 k : Nat} {C C1 : List ci_c} {x : ci_c} {g : JFrame} (hs0 : s.heap.size = sz + n0) (hn : n0 ≤ C.length) (hP : va_P D classes (ci_W sz cA C1) H) (eqL : C1.length = C.length) (hk : C[k]? = some x) (kk : H.size = sz + C.length → W p l e R s m args below meth c H locs (C.length - n0) slots Q g) : W p l e R s m args below meth c H locs (C.length - n0) slots Q g := by
  intro T hT X
  refine kk ?_ T hT X
  have h1 := X.heapSize
  rw [hT, hs0] at h1
  have hl := (List.getElem?_eq_some_iff.mp hk).1
  have h2 := (hP (C.length - 1) _ (ci_W_at (List.getElem?_eq_getElem (l := C1) (i := C.length - 1) (by omega)))).lt
  have h2 : sz + (C.length - 1) < H.size := h2
  omega
/-- the run goes on behind one instruction -/
def ci_G (p : Program) (l : Launch) (e : Env) (R : Room) (s : State) (m : MethodId) (args : Array Value) (below : List Frame) (meth : Method) (c : Code) (H0 : Heap) (Q : State → Prop) (z sz : Nat) (cA : Nat → ClassId) (D : va_G) (n0 s0 NM SM : Nat) (i : Instr) : Prop := ∀ (pc len a b j : Nat) (x : Int) (ls : en_l) (st : List en_v) (C : List ci_c) (H : Heap) (locs : List Loc) (lsA : Array Slot) (y : ci_x), ci_chk z (pc, i, len, a, b, j, x) = true → ((n0 ≤ C.length ∧ s0 ≤ ci_sz C) ∧ C.length ≤ NM ∧ ci_sz C ≤ SM) → ci_S sz cA D H0 (ci_mL z) lsA ls H locs C → ci_st (pc, i, len, a, b, j, x) ls st C NM SM = some y →
  (∀ (H1 : Heap) (locs1 : List Loc) (lsA1 : Array Slot), ((n0 ≤ y.2.2.2.length ∧ s0 ≤ ci_sz y.2.2.2) ∧ y.2.2.2.length ≤ NM ∧ ci_sz y.2.2.2 ≤ SM) → ci_S sz cA D H0 (ci_mL z) lsA1 y.2.1 H1 locs1 y.2.2.2 → W p l e R s m args below meth c H1 locs1 (y.2.2.2.length - n0) (ci_sz y.2.2.2 - s0) Q (F0 m y.1 lsA1 (y.2.2.1.map (en_rv (ci_ad sz))))) →
  W p l e R s m args below meth c H locs (C.length - n0) (ci_sz C - s0) Q (F0 m pc lsA (st.map (en_rv (ci_ad sz))))
theorem ci_snd_aload_n (E : ci_E z p s m args meth c R) (hK : va_K D classes (en_tys cA) s) (hQ : ci_Q s) {n0 s0 NM SM : Nat} (hN : NM ≤ n0 + R.cells) (hM : SM ≤ s0 + R.slots) (hs0 : s.heap.size = sz + n0) {kk : Fin 4} : ci_G p l e R s m args below meth c H0 Q z sz cA D n0 s0 NM SM (.aload_n kk) := by
  intro pc len a b j x ls st C H locs lsA y hc h1 S h K
  obtain ⟨hx, hb, hml, hown, hts, hnm, hfr, hlo⟩ := E
  obtain ⟨hz, hP, hS, hl⟩ := S
  unfold ci_chk at hc
  simp only [Bool.and_eq_true, decide_eq_true_eq] at hc
  unfold ci_st at h
  dsimp only at h
  obtain ⟨hd, hlen, hi⟩ := hc
  have hlen := Nat.eq_of_beq_eq_true hlen
  subst hlen
  have hi := Nat.eq_of_beq_eq_true hi
  split at h
  · rename_i r hg
    cases h
    refine lv_aload_n hx hb hd hi (hl.2.2 _ _ hg) ?_
    exact K H locs lsA h1 ⟨hz, hP, hS, hl⟩
  · cases h
theorem ci_snd_iload_n (E : ci_E z p s m args meth c R) (hK : va_K D classes (en_tys cA) s) (hQ : ci_Q s) {n0 s0 NM SM : Nat} (hN : NM ≤ n0 + R.cells) (hM : SM ≤ s0 + R.slots) (hs0 : s.heap.size = sz + n0) {kk : Fin 4} : ci_G p l e R s m args below meth c H0 Q z sz cA D n0 s0 NM SM (.iload_n kk) := by
  intro pc len a b j x ls st C H locs lsA y hc h1 S h K
  obtain ⟨hx, hb, hml, hown, hts, hnm, hfr, hlo⟩ := E
  obtain ⟨hz, hP, hS, hl⟩ := S
  unfold ci_chk at hc
  simp only [Bool.and_eq_true, decide_eq_true_eq] at hc
  unfold ci_st at h
  dsimp only at h
  obtain ⟨hd, hlen, hi⟩ := hc
  have hlen := Nat.eq_of_beq_eq_true hlen
  subst hlen
  have hi := Nat.eq_of_beq_eq_true hi
  split at h
  · rename_i r hg
    cases h
    refine lv_iload_n hx hb hd hi (hl.2.2 _ _ hg) ?_
    exact K H locs lsA h1 ⟨hz, hP, hS, hl⟩
  · cases h
theorem ci_snd_iload (E : ci_E z p s m args meth c R) (hK : va_K D classes (en_tys cA) s) (hQ : ci_Q s) {n0 s0 NM SM : Nat} (hN : NM ≤ n0 + R.cells) (hM : SM ≤ s0 + R.slots) (hs0 : s.heap.size = sz + n0) {kk : Nat} : ci_G p l e R s m args below meth c H0 Q z sz cA D n0 s0 NM SM (.iload kk) := by
  intro pc len a b j x ls st C H locs lsA y hc h1 S h K
  obtain ⟨hx, hb, hml, hown, hts, hnm, hfr, hlo⟩ := E
  obtain ⟨hz, hP, hS, hl⟩ := S
  unfold ci_chk at hc
  simp only [Bool.and_eq_true, decide_eq_true_eq] at hc
  unfold ci_st at h
  dsimp only at h
  obtain ⟨hd, hlen, hi⟩ := hc
  have hlen := Nat.eq_of_beq_eq_true hlen
  subst hlen
  have hi := Nat.eq_of_beq_eq_true hi
  subst hi
  split at h
  · rename_i r hg
    cases h
    refine lv_iload hx hb hd (hl.2.2 _ _ hg) ?_
    exact K H locs lsA h1 ⟨hz, hP, hS, hl⟩
  · cases h
theorem ci_snd_istore (E : ci_E z p s m args meth c R) (hK : va_K D classes (en_tys cA) s) (hQ : ci_Q s) {n0 s0 NM SM : Nat} (hN : NM ≤ n0 + R.cells) (hM : SM ≤ s0 + R.slots) (hs0 : s.heap.size = sz + n0) {kk : Nat} : ci_G p l e R s m args below meth c H0 Q z sz cA D n0 s0 NM SM (.istore kk) := by
  intro pc len a b j x ls st C H locs lsA y hc h1 S h K
  obtain ⟨hx, hb, hml, hown, hts, hnm, hfr, hlo⟩ := E
  obtain ⟨hz, hP, hS, hl⟩ := S
  unfold ci_chk at hc
  simp only [Bool.and_eq_true, decide_eq_true_eq] at hc
  unfold ci_st at h
  dsimp only at h
  obtain ⟨hd, hlen, hi, hn⟩ := hc
  have hlen := Nat.eq_of_beq_eq_true hlen
  subst hlen
  have hi := Nat.eq_of_beq_eq_true hi
  have hn := Nat.le_of_ble_eq_true hn
  subst hi
  split at h
  · rename_i v r
    cases h
    refine lv_istore hx hb hd (en_lh_has hl) hn rfl (fun ls' hl' => ?_)
    exact K H locs ls' h1 ⟨hz, hP, hS, en_lh_s1 (v := .inl v) hl'⟩
  · cases h
theorem ci_snd_iconst (E : ci_E z p s m args meth c R) (hK : va_K D classes (en_tys cA) s) (hQ : ci_Q s) {n0 s0 NM SM : Nat} (hN : NM ≤ n0 + R.cells) (hM : SM ≤ s0 + R.slots) (hs0 : s.heap.size = sz + n0) {kk : Int} : ci_G p l e R s m args below meth c H0 Q z sz cA D n0 s0 NM SM (.iconst kk) := by
  intro pc len a b j x ls st C H locs lsA y hc h1 S h K
  obtain ⟨hx, hb, hml, hown, hts, hnm, hfr, hlo⟩ := E
  obtain ⟨hz, hP, hS, hl⟩ := S
  unfold ci_chk at hc
  simp only [Bool.and_eq_true, decide_eq_true_eq] at hc
  unfold ci_st at h
  dsimp only at h
  obtain ⟨hd, hlen⟩ := hc
  have hlen := Nat.eq_of_beq_eq_true hlen
  subst hlen
  cases h
  refine lv_iconst hx hb hd rfl ?_
  exact K H locs lsA h1 ⟨hz, hP, hS, hl⟩
theorem ci_snd_bipush (E : ci_E z p s m args meth c R) (hK : va_K D classes (en_tys cA) s) (hQ : ci_Q s) {n0 s0 NM SM : Nat} (hN : NM ≤ n0 + R.cells) (hM : SM ≤ s0 + R.slots) (hs0 : s.heap.size = sz + n0) {kk : Int} : ci_G p l e R s m args below meth c H0 Q z sz cA D n0 s0 NM SM (.bipush kk) := by
  intro pc len a b j x ls st C H locs lsA y hc h1 S h K
  obtain ⟨hx, hb, hml, hown, hts, hnm, hfr, hlo⟩ := E
  obtain ⟨hz, hP, hS, hl⟩ := S
  unfold ci_chk at hc
  simp only [Bool.and_eq_true, decide_eq_true_eq] at hc
  unfold ci_st at h
  dsimp only at h
  obtain ⟨hd, hlen, hv⟩ := hc
  have hlen := Nat.eq_of_beq_eq_true hlen
  subst hlen
  cases h
  refine lv_bipush hx hb hd hv ?_
  exact K H locs lsA h1 ⟨hz, hP, hS, hl⟩
theorem ci_snd_sipush (E : ci_E z p s m args meth c R) (hK : va_K D classes (en_tys cA) s) (hQ : ci_Q s) {n0 s0 NM SM : Nat} (hN : NM ≤ n0 + R.cells) (hM : SM ≤ s0 + R.slots) (hs0 : s.heap.size = sz + n0) {kk : Int} : ci_G p l e R s m args below meth c H0 Q z sz cA D n0 s0 NM SM (.sipush kk) := by
  intro pc len a b j x ls st C H locs lsA y hc h1 S h K
  obtain ⟨hx, hb, hml, hown, hts, hnm, hfr, hlo⟩ := E
  obtain ⟨hz, hP, hS, hl⟩ := S
  unfold ci_chk at hc
  simp only [Bool.and_eq_true, decide_eq_true_eq] at hc
  unfold ci_st at h
  dsimp only at h
  obtain ⟨hd, hlen, hv⟩ := hc
  have hlen := Nat.eq_of_beq_eq_true hlen
  subst hlen
  cases h
  refine lv_sipush hx hb hd hv ?_
  exact K H locs lsA h1 ⟨hz, hP, hS, hl⟩
theorem ci_snd_ldc (E : ci_E z p s m args meth c R) (hK : va_K D classes (en_tys cA) s) (hQ : ci_Q s) {n0 s0 NM SM : Nat} (hN : NM ≤ n0 + R.cells) (hM : SM ≤ s0 + R.slots) (hs0 : s.heap.size = sz + n0) {kk : Nat} : ci_G p l e R s m args below meth c H0 Q z sz cA D n0 s0 NM SM (.ldc kk) := by
  intro pc len a b j x ls st C H locs lsA y hc h1 S h K
  obtain ⟨hx, hb, hml, hown, hts, hnm, hfr, hlo⟩ := E
  obtain ⟨hz, hP, hS, hl⟩ := S
  unfold ci_chk at hc
  simp only [Bool.and_eq_true, decide_eq_true_eq] at hc
  unfold ci_st at h
  dsimp only at h
  obtain ⟨hd, hlen, hw⟩ := hc
  have hlen := Nat.eq_of_beq_eq_true hlen
  subst hlen
  cases h
  refine lv_ldc hx hb hown (hts _ (en_wd_in hw)) hd ?_
  exact K H locs lsA h1 ⟨hz, hP, hS, hl⟩
theorem ci_snd_iadd (E : ci_E z p s m args meth c R) (hK : va_K D classes (en_tys cA) s) (hQ : ci_Q s) {n0 s0 NM SM : Nat} (hN : NM ≤ n0 + R.cells) (hM : SM ≤ s0 + R.slots) (hs0 : s.heap.size = sz + n0) : ci_G p l e R s m args below meth c H0 Q z sz cA D n0 s0 NM SM .iadd := by
  intro pc len a b j x ls st C H locs lsA y hc h1 S h K
  obtain ⟨hx, hb, hml, hown, hts, hnm, hfr, hlo⟩ := E
  obtain ⟨hz, hP, hS, hl⟩ := S
  unfold ci_chk at hc
  simp only [Bool.and_eq_true, decide_eq_true_eq] at hc
  unfold ci_st at h
  dsimp only at h
  obtain ⟨hd, hlen⟩ := hc
  have hlen := Nat.eq_of_beq_eq_true hlen
  subst hlen
  split at h
  · rename_i v u r
    cases h
    have K1 := K H locs lsA h1 ⟨hz, hP, hS, hl⟩
    refine lv_iadd hx hb hd ?_
    rw [nu_add]
    exact K1
  · cases h
theorem ci_snd_imul (E : ci_E z p s m args meth c R) (hK : va_K D classes (en_tys cA) s) (hQ : ci_Q s) {n0 s0 NM SM : Nat} (hN : NM ≤ n0 + R.cells) (hM : SM ≤ s0 + R.slots) (hs0 : s.heap.size = sz + n0) : ci_G p l e R s m args below meth c H0 Q z sz cA D n0 s0 NM SM .imul := by
  intro pc len a b j x ls st C H locs lsA y hc h1 S h K
  obtain ⟨hx, hb, hml, hown, hts, hnm, hfr, hlo⟩ := E
  obtain ⟨hz, hP, hS, hl⟩ := S
  unfold ci_chk at hc
  simp only [Bool.and_eq_true, decide_eq_true_eq] at hc
  unfold ci_st at h
  dsimp only at h
  obtain ⟨hd, hlen⟩ := hc
  have hlen := Nat.eq_of_beq_eq_true hlen
  subst hlen
  split at h
  · rename_i v u r
    cases h
    have K1 := K H locs lsA h1 ⟨hz, hP, hS, hl⟩
    refine lv_imul hx hb hd ?_
    rw [nu_mul]
    exact K1
  · cases h
theorem ci_snd_dup (E : ci_E z p s m args meth c R) (hK : va_K D classes (en_tys cA) s) (hQ : ci_Q s) {n0 s0 NM SM : Nat} (hN : NM ≤ n0 + R.cells) (hM : SM ≤ s0 + R.slots) (hs0 : s.heap.size = sz + n0) : ci_G p l e R s m args below meth c H0 Q z sz cA D n0 s0 NM SM .dup := by
  intro pc len a b j x ls st C H locs lsA y hc h1 S h K
  obtain ⟨hx, hb, hml, hown, hts, hnm, hfr, hlo⟩ := E
  obtain ⟨hz, hP, hS, hl⟩ := S
  unfold ci_chk at hc
  simp only [Bool.and_eq_true, decide_eq_true_eq] at hc
  unfold ci_st at h
  dsimp only at h
  obtain ⟨hd, hlen⟩ := hc
  have hlen := Nat.eq_of_beq_eq_true hlen
  subst hlen
  split at h
  · rename_i u r
    cases h
    refine lv_dup hx hb hd rfl ?_
    exact K H locs lsA h1 ⟨hz, hP, hS, hl⟩
  · cases h
theorem ci_snd_goto (E : ci_E z p s m args meth c R) (hK : va_K D classes (en_tys cA) s) (hQ : ci_Q s) {n0 s0 NM SM : Nat} (hN : NM ≤ n0 + R.cells) (hM : SM ≤ s0 + R.slots) (hs0 : s.heap.size = sz + n0) {kk : Int} : ci_G p l e R s m args below meth c H0 Q z sz cA D n0 s0 NM SM (.goto kk) := by
  intro pc len a b j x ls st C H locs lsA y hc h1 S h K
  obtain ⟨hx, hb, hml, hown, hts, hnm, hfr, hlo⟩ := E
  obtain ⟨hz, hP, hS, hl⟩ := S
  unfold ci_chk at hc
  simp only [Bool.and_eq_true, decide_eq_true_eq] at hc
  unfold ci_st at h
  dsimp only at h
  obtain ⟨hd, hlen, ht⟩ := hc
  have hlen := Nat.eq_of_beq_eq_true hlen
  subst hlen
  cases h
  refine lv_goto hx hb hd ht ?_
  exact K H locs lsA h1 ⟨hz, hP, hS, hl⟩
theorem ci_snd_iinc (E : ci_E z p s m args meth c R) (hK : va_K D classes (en_tys cA) s) (hQ : ci_Q s) {n0 s0 NM SM : Nat} (hN : NM ≤ n0 + R.cells) (hM : SM ≤ s0 + R.slots) (hs0 : s.heap.size = sz + n0) {kk : Nat} {cc : Int} : ci_G p l e R s m args below meth c H0 Q z sz cA D n0 s0 NM SM (.iinc kk cc) := by
  intro pc len a b j x ls st C H locs lsA y hc h1 S h K
  obtain ⟨hx, hb, hml, hown, hts, hnm, hfr, hlo⟩ := E
  obtain ⟨hz, hP, hS, hl⟩ := S
  unfold ci_chk at hc
  simp only [Bool.and_eq_true, decide_eq_true_eq] at hc
  unfold ci_st at h
  dsimp only at h
  obtain ⟨hd, hlen, hn⟩ := hc
  have hlen := Nat.eq_of_beq_eq_true hlen
  subst hlen
  have hn := Nat.le_of_ble_eq_true hn
  split at h
  · rename_i v hg
    cases h
    have hm := en_ll_of (ad := ci_ad sz) (i0 := 0) hg
    rw [Nat.zero_add] at hm
    obtain ⟨k0, hk0⟩ := List.getElem?_of_mem hm
    refine lv_iinc (v := Int32.ofInt (v + cc)) hx hb hd (en_lh_has hl) (k := k0) hk0 (nu_add v cc) hn rfl (fun ls' hl' => ?_)
    exact K H locs ls' h1 ⟨hz, hP, hS, en_lh_s1 (v := .inl (v + cc)) hl'⟩
  · cases h
theorem ci_snd_icmp_gt (E : ci_E z p s m args meth c R) (hK : va_K D classes (en_tys cA) s) (hQ : ci_Q s) {n0 s0 NM SM : Nat} (hN : NM ≤ n0 + R.cells) (hM : SM ≤ s0 + R.slots) (hs0 : s.heap.size = sz + n0) {off : Int} : ci_G p l e R s m args below meth c H0 Q z sz cA D n0 s0 NM SM (.if_icmp .gt off) := by
  intro pc len a b j x ls st C H locs lsA y hc h1 S h K
  obtain ⟨hx, hb, hml, hown, hts, hnm, hfr, hlo⟩ := E
  obtain ⟨hz, hP, hS, hl⟩ := S
  unfold ci_chk at hc
  simp only [Bool.and_eq_true, decide_eq_true_eq] at hc
  unfold ci_st at h
  dsimp only at h
  obtain ⟨hd, hlen, ht⟩ := hc
  have hlen := Nat.eq_of_beq_eq_true hlen
  subst hlen
  split at h
  · rename_i v u r
    cases h
    have K1 := K H locs lsA h1 ⟨hz, hP, hS, hl⟩
    dsimp only at K1
    refine lv_icmp_gt hx hb hd ht (fun q => ?_) (fun q => ?_)
    · rw [nu_lt] at q
      rw [if_pos q] at K1
      exact K1
    · rw [nu_lt] at q
      rw [if_neg q] at K1
      exact K1
  · cases h
theorem ci_snd_icmp_ge (E : ci_E z p s m args meth c R) (hK : va_K D classes (en_tys cA) s) (hQ : ci_Q s) {n0 s0 NM SM : Nat} (hN : NM ≤ n0 + R.cells) (hM : SM ≤ s0 + R.slots) (hs0 : s.heap.size = sz + n0) {off : Int} : ci_G p l e R s m args below meth c H0 Q z sz cA D n0 s0 NM SM (.if_icmp .ge off) := by
  intro pc len a b j x ls st C H locs lsA y hc h1 S h K
  obtain ⟨hx, hb, hml, hown, hts, hnm, hfr, hlo⟩ := E
  obtain ⟨hz, hP, hS, hl⟩ := S
  unfold ci_chk at hc
  simp only [Bool.and_eq_true, decide_eq_true_eq] at hc
  unfold ci_st at h
  dsimp only at h
  obtain ⟨hd, hlen, ht⟩ := hc
  have hlen := Nat.eq_of_beq_eq_true hlen
  subst hlen
  split at h
  · rename_i v u r
    cases h
    have K1 := K H locs lsA h1 ⟨hz, hP, hS, hl⟩
    dsimp only at K1
    refine lv_icmp_ge hx hb hd ht (fun q => ?_) (fun q => ?_)
    · rw [nu_le] at q
      rw [if_pos q] at K1
      exact K1
    · rw [nu_le] at q
      rw [if_neg q] at K1
      exact K1
  · cases h
theorem ci_snd_math (E : ci_E z p s m args meth c R) (hK : va_K D classes (en_tys cA) s) (hQ : ci_Q s) {n0 s0 NM SM : Nat} (hN : NM ≤ n0 + R.cells) (hM : SM ≤ s0 + R.slots) (hs0 : s.heap.size = sz + n0) {kk : Nat} : ci_G p l e R s m args below meth c H0 Q z sz cA D n0 s0 NM SM (.invokestatic kk) := by
  intro pc len a b j x ls st C H locs lsA y hc h1 S h K
  obtain ⟨hx, hb, hml, hown, hts, hnm, hfr, hlo⟩ := E
  obtain ⟨hz, hP, hS, hl⟩ := S
  unfold ci_chk at hc
  simp only [Bool.and_eq_true, decide_eq_true_eq] at hc
  unfold ci_st at h
  dsimp only at h
  obtain ⟨hd, hlen, ⟨hf1, hf2⟩, hw⟩ := hc
  have hlen := Nat.eq_of_beq_eq_true hlen
  subst hlen
  have hf1 := Nat.le_of_ble_eq_true hf1
  have hf2 := Nat.le_of_ble_eq_true hf2
  have hml2 : c.maxLocals = lsA.size := hml.trans hl.1.symm
  split at h
  · rename_i v u r
    cases hr8 : Nat.ble r.length 8 with
    | false => rw [hr8] at h; cases h
    | true =>
      rw [hr8] at h
      have hr8 := Nat.le_of_ble_eq_true hr8
      dsimp only [cond_true] at h
      have hroom : ((r.map (en_rv (ci_ad sz))).map fun v => v.category).sum + 13 ≤ R.locals := by
        rw [en_sum_map, hlo]
        have := en_sum_le r
        omega
      cases hb1 : Nat.beq b 101 with
      | true =>
        rw [hb1] at h hw
        cases h
        have K1 := K H locs lsA h1 ⟨hz, hP, hS, hl⟩
        dsimp only at K1
        refine va_mmax hx hb hml2 hown (hts _ (en_wd_in hw)) (hts _ en_mw1) (hts _ en_mw2) (hts _ en_mw3) (by rw [hfr]; exact hf1) hroom (by omega) (by omega) hd ?_
        by_cases hlt : w32 u < w32 v
        · rw [if_pos ((nu_lt u v).mpr hlt)]
          rw [if_pos hlt] at K1
          exact K1
        · rw [if_neg (fun q => hlt ((nu_lt u v).mp q))]
          rw [if_neg hlt] at K1
          exact K1
      | false =>
        rw [hb1] at h hw
        cases hb2 : Nat.beq b 102 with
        | false => rw [hb2] at h; cases h
        | true =>
          rw [hb2] at h hw
          cases h
          have K1 := K H locs lsA h1 ⟨hz, hP, hS, hl⟩
          dsimp only at K1
          refine va_mmin hx hb hml2 hown (hts _ (en_wd_in hw)) (hts _ en_mw4) (hts _ en_mw2) (hts _ en_mw5) (by rw [hfr]; exact hf1) hroom (by omega) (by omega) hd ?_
          by_cases hlt : w32 v < w32 u
          · rw [if_pos ((nu_lt v u).mpr hlt)]
            rw [if_pos hlt] at K1
            exact K1
          · rw [if_neg (fun q => hlt ((nu_lt v u).mp q))]
            rw [if_neg hlt] at K1
            exact K1
  · cases h
theorem ci_vV (sz : Nat) (fs : List (Option en_v)) (k : Nat) : vp_V (fs.map (ci_vl sz)) k = ci_vl sz (fs.getD k none) := by
  unfold vp_V
  rw [List.getD_eq_getElem?_getD, List.getD_eq_getElem?_getD, List.getElem?_map]
  cases fs[k]? <;> rfl
theorem ci_cls {a : Nat} (h : a < 13) : ∃ q : vw_C, classes[a]? = some q := by
  have e : classes.length = 13 := rfl
  exact ⟨_, List.getElem?_eq_getElem (by rw [e]; exact h)⟩
theorem ci_snd_new (E : ci_E z p s m args meth c R) (hK : va_K D classes (en_tys cA) s) (hQ : ci_Q s) {n0 s0 NM SM : Nat} (hN : NM ≤ n0 + R.cells) (hM : SM ≤ s0 + R.slots) (hs0 : s.heap.size = sz + n0) {kk : Nat} : ci_G p l e R s m args below meth c H0 Q z sz cA D n0 s0 NM SM (.new kk) := by
  intro pc len a b j x ls st C H locs lsA y hc h1 S h K
  obtain ⟨hx, hb, hml, hown, hts, hnm, hfr, hlo⟩ := E
  obtain ⟨hz, hP, hS, hl⟩ := S
  unfold ci_chk at hc
  simp only [Bool.and_eq_true, decide_eq_true_eq] at hc
  unfold ci_st at h
  dsimp only at h
  obtain ⟨hd, hlen, hw, hnew⟩ := hc
  have hlen := Nat.eq_of_beq_eq_true hlen
  subst hlen
  unfold ci_new at hnew
  simp only [Bool.and_eq_true] at hnew
  obtain ⟨ha, ⟨⟨hw1, hw2⟩, hlN⟩, hall⟩ := hnew
  have hlN := Nat.eq_of_beq_eq_true hlN
  obtain ⟨q, hq⟩ := ci_cls (Nat.le_of_ble_eq_true ha)
  have eN : en_fN a = q.2.2 := by unfold en_fN; rw [hq]
  have eC : ci_cn a = q.1 := by unfold ci_cn; rw [hq]
  have eF : ∀ k, en_fld a k = q.2.1 k := fun k => by unfold en_fld; rw [hq]
  rw [eN] at hlN hw1 hall
  rw [eC] at hw hw1 hw2
  obtain ⟨hin, ty, hty, hnm2⟩ := en_cls hq
  split at h
  · rename_i hr
    cases h
    have hKn := hK.1 a q hq
    have hfs : ∀ k, k < q.2.2 → defaultValue (ty k) = vp_V ((ci_zs a).map (ci_vl sz)) k := fun k hk => by
      rw [ci_vV]
      have g := List.all_eq_true.mp hall k (List.mem_range.mpr hk)
      rw [eF, hty k hk] at g
      exact ci_dk_ok g
    rw [hlN] at hr
    have eS : ci_sz (C ++ [.inl (a, ci_zs a)]) = ci_sz C + q.2.2 := by
      rw [ci_sz_app, ← hlN]; rfl
    refine W.newcK (h := sz + C.length) hx hb hown (hts _ (en_wd_in hw)) (hts _ (en_wd_in hw1)) (hts _ (en_wd_in hw2)) rfl hd (by omega) (by omega) hKn.2.1 hz fun H1 kC hkC e1 z1 o1 => ?_
    rw [← hz] at e1 z1 o1
    have hP1 : va_P D classes (ci_W sz cA (C ++ [.inl (a, ci_zs a)])) H1 := ci_push hP hz o1 (fun k w hk => by
      cases k with
      | zero => cases hk; exact ⟨q, hq, (u_born ty hts hin hKn hkC e1 hty).to hfs⟩
      | succ k => cases hk)
    have hS1 : va_S (fun q => sz ≤ q) H0 H1 locs := ⟨Nat.le_trans hS.1 (by omega), fun w g1 g2 => (o1 w (Nat.lt_of_lt_of_le g1 hS.1)).trans (hS.2.1 w g1 g2), hS.2.2⟩
    have eL : (C ++ [(.inl (a, ci_zs a) : ci_c)]).length = C.length + 1 := by rw [List.length_append]; rfl
    have K1 := K H1 locs lsA (by show ((_ ≤ (C ++ [(.inl (a, ci_zs a) : ci_c)]).length ∧ _) ∧ (C ++ [(.inl (a, ci_zs a) : ci_c)]).length ≤ _ ∧ _); rw [eL]; dsimp only; rw [eS]; omega) ⟨by dsimp only; rw [eL]; omega, hP1, hS1, hl⟩
    refine ci_cs ?_ ?_ K1
    · dsimp only; rw [eL]; omega
    · dsimp only; rw [eS]; omega
  · cases h
theorem ci_snd_newarray (E : ci_E z p s m args meth c R) (hK : va_K D classes (en_tys cA) s) (hQ : ci_Q s) {n0 s0 NM SM : Nat} (hN : NM ≤ n0 + R.cells) (hM : SM ≤ s0 + R.slots) (hs0 : s.heap.size = sz + n0) {kk : ArrayType} : ci_G p l e R s m args below meth c H0 Q z sz cA D n0 s0 NM SM (.newarray kk) := by
  intro pc len a b j x ls st C H locs lsA y hc h1 S h K
  obtain ⟨hx, hb, hml, hown, hts, hnm, hfr, hlo⟩ := E
  obtain ⟨hz, hP, hS, hl⟩ := S
  unfold ci_chk at hc
  simp only [Bool.and_eq_true, decide_eq_true_eq] at hc
  unfold ci_st at h
  dsimp only at h
  obtain ⟨hd, hlen, hw, hat⟩ := hc
  have hlen := Nat.eq_of_beq_eq_true hlen
  subst hlen
  have h4 : (a = 0 ∧ kk = .int) ∨ (a = 1 ∧ kk = .byte) ∨ (a = 2 ∧ kk = .boolean) ∨ (a = 3 ∧ kk = .long) := by
    unfold ci_aty at hat
    split at hat
    · exact .inl ⟨rfl, rfl⟩
    · exact .inr (.inl ⟨rfl, rfl⟩)
    · exact .inr (.inr (.inl ⟨rfl, rfl⟩))
    · exact .inr (.inr (.inr ⟨rfl, rfl⟩))
    · cases hat
  split at h
  · rename_i n r
    split at h
    · rename_i hr
      cases h
      have e32 : w32 n = n := w32_of ⟨by omega, by omega⟩
      obtain ⟨hn0, hcl⟩ := nu_nn (j := n) (by rw [e32]; exact hr.1.1)
      rw [e32] at hcl
      have hcomp : componentBytes (newarray.typeOf kk) ≤ 8 := by
        rcases h4 with ⟨-, rfl⟩ | ⟨-, rfl⟩ | ⟨-, rfl⟩ | ⟨-, rfl⟩ <;> decide
      have hby : n.toNat * componentBytes (newarray.typeOf kk) ≤ 536870912 := Nat.le_trans (Nat.mul_le_mul (show n.toNat ≤ 1000000 by omega) hcomp) (by decide)
      have eS : ci_sz (C ++ [.inr (a, n.toNat, 0, [])]) = ci_sz C + n.toNat := by
        rw [ci_sz_app]; rfl
      have eL : (C ++ [(.inr (a, n.toNat, 0, []) : ci_c)]).length = C.length + 1 := by rw [List.length_append]; rfl
      refine va_newaK (h := sz + C.length) hx hb (hts _ (en_wd_in hw)) rfl hd rfl hn0 hcl hby (by omega) (by omega) hz fun H1 cB e1 z1 o1 hAr hNm => ?_
      rw [← hz] at e1 z1 o1
      have hva : va_at D classes (H.size + 0, ci_en sz cA (.inr (a, n.toNat, 0, []))) H1 := by
        show H1[H.size]? = some (vp_cell _ _)
        rw [e1]
        have e0 : (fun j : Nat => Value.int (Int32.ofInt (([] : List Int).getD j 0))) = fun _ => .int 0 := by
          funext j
          rw [List.getD_eq_getElem?_getD, List.getElem?_nil]
          rfl
        rcases h4 with ⟨rfl, rfl⟩ | ⟨rfl, rfl⟩ | ⟨rfl, rfl⟩ | ⟨rfl, rfl⟩
        · have g : s.vm.findClass ("[" ++ FieldType.int.toString) = some (cA 0) := (hK.2 0 _ rfl).2
          rw [Option.some.inj (hNm.symm.trans g)]
          show some (arrV (cA 0) n.toNat fun _ => .int 0) = some (arrV (cA 0) n.toNat fun j => .int (Int32.ofInt (([] : List Int).getD j 0)))
          rw [e0]
        · have g : s.vm.findClass ("[" ++ FieldType.byte.toString) = some (cA 1) := (hK.2 1 _ rfl).2
          rw [Option.some.inj (hNm.symm.trans g)]
          rfl
        · have g : s.vm.findClass ("[" ++ FieldType.boolean.toString) = some (cA 2) := (hK.2 2 _ rfl).2
          rw [Option.some.inj (hNm.symm.trans g)]
          rfl
        · have g : s.vm.findClass ("[" ++ FieldType.long.toString) = some (cA 3) := (hK.2 3 _ rfl).2
          rw [Option.some.inj (hNm.symm.trans g)]
          rfl
      have hP1 : va_P D classes (ci_W sz cA (C ++ [.inr (a, n.toNat, 0, [])])) H1 := ci_push hP hz o1 (fun k w hk => by
        cases k with
        | zero => cases hk; exact hva
        | succ k => cases hk)
      have hS1 : va_S (fun q => sz ≤ q) H0 H1 locs := ⟨Nat.le_trans hS.1 (by omega), fun w g1 g2 => (o1 w (Nat.lt_of_lt_of_le g1 hS.1)).trans (hS.2.1 w g1 g2), hS.2.2⟩
      have K1 := K H1 locs lsA (by dsimp only; rw [eL, eS]; omega) ⟨by dsimp only; rw [eL]; omega, hP1, hS1, hl⟩
      refine ci_cs ?_ ?_ K1
      · dsimp only; rw [eL]; omega
      · dsimp only; rw [eS]; omega
    · cases h
  · cases h
theorem ci_snd_getfield (E : ci_E z p s m args meth c R) (hK : va_K D classes (en_tys cA) s) (hQ : ci_Q s) {n0 s0 NM SM : Nat} (hN : NM ≤ n0 + R.cells) (hM : SM ≤ s0 + R.slots) (hs0 : s.heap.size = sz + n0) {kk : Nat} : ci_G p l e R s m args below meth c H0 Q z sz cA D n0 s0 NM SM (.getfield kk) := by
  intro pc len a b j x ls st C H locs lsA y hc h1 S h K
  obtain ⟨hx, hb, hml, hown, hts, hnm, hfr, hlo⟩ := E
  obtain ⟨hz, hP, hS, hl⟩ := S
  unfold ci_chk at hc
  simp only [Bool.and_eq_true, decide_eq_true_eq] at hc
  unfold ci_st at h
  dsimp only at h
  obtain ⟨hd, hlen, hw, hbN⟩ := hc
  have hlen := Nat.eq_of_beq_eq_true hlen
  subst hlen
  obtain ⟨q, hq, hbM, hfq⟩ := en_fN_of hbN
  rw [hfq] at hw
  obtain ⟨hin, ty0, hty, hnm2⟩ := en_cls hq
  split at h
  · rename_i k o r
    split at h
    · rename_i cc fs hk
      cases hca : Nat.beq cc a with
      | false => rw [hca] at h; cases h
      | true =>
        rw [hca] at h
        have hca := Nat.eq_of_beq_eq_true hca
        subst hca
        dsimp only [cond_true] at h
        split at h
        · rename_i v hv
          cases h
          have he := ci_W_at (sz := sz) (cA := cA) hk
          refine va_get (C := q.1) (T := q.2.1) (N := q.2.2) hx hb hts hin hown hK hP k (fs := fs.map (ci_vl sz)) he hq b hbM (hts _ (en_wd_in hw)) (fun _ h => h) (v := en_rv (ci_ad sz) v) (by rw [List.getElem?_map, hv]; rfl) hd ?_
          exact K H locs lsA h1 ⟨hz, hP, hS, hl⟩
        · cases h
    · cases h
  · cases h
theorem ci_snd_putfield (E : ci_E z p s m args meth c R) (hK : va_K D classes (en_tys cA) s) (hQ : ci_Q s) {n0 s0 NM SM : Nat} (hN : NM ≤ n0 + R.cells) (hM : SM ≤ s0 + R.slots) (hs0 : s.heap.size = sz + n0) {kk : Nat} : ci_G p l e R s m args below meth c H0 Q z sz cA D n0 s0 NM SM (.putfield kk) := by
  intro pc len a b j x ls st C H locs lsA y hc h1 S h K
  obtain ⟨hx, hb, hml, hown, hts, hnm, hfr, hlo⟩ := E
  obtain ⟨hz, hP, hS, hl⟩ := S
  unfold ci_chk at hc
  simp only [Bool.and_eq_true, decide_eq_true_eq] at hc
  unfold ci_st at h
  dsimp only at h
  obtain ⟨hd, hlen, hw, hbN, hpf⟩ := hc
  have hlen := Nat.eq_of_beq_eq_true hlen
  subst hlen
  obtain ⟨q, hq, hbM, hfq⟩ := en_fN_of hbN
  rw [hfq] at hw
  obtain ⟨hin, ty0, hty, hnm2⟩ := en_cls hq
  unfold ci_pf at hpf
  rw [hfq] at hpf
  simp only [Bool.and_eq_true] at hpf
  obtain ⟨hfin, hkd⟩ := hpf
  split at h
  · rename_i v k o r
    split at h
    · rename_i cc fs hk
      cases hca : (Nat.beq cc a && (Nat.blt b fs.length && ci_kd v x)) with
      | false => rw [hca] at h; cases h
      | true =>
        rw [hca] at h
        simp only [Bool.and_eq_true] at hca
        obtain ⟨hca, hbl, hvk⟩ := hca
        have hca := Nat.eq_of_beq_eq_true hca
        subst hca
        have hbl := Nat.le_of_ble_eq_true hbl
        cases h
        have he := ci_W_at (sz := sz) (cA := cA) hk
        rw [hty b hbM] at hkd
        have hnf : narrow (ty0 b) (en_rv (ci_ad sz) v) = en_rv (ci_ad sz) v ∧ fits (ty0 b) (en_rv (ci_ad sz) v) = true := by
          generalize ty0 b = ft at hkd
          unfold ci_kd at hvk
          split at hvk
          · have hvk := of_decide_eq_true hvk
            subst hvk
            split at hkd
            · rename_i heq; cases heq; exact ⟨rfl, rfl⟩
            · exact absurd (of_decide_eq_true hkd) (by decide)
            · exact absurd (of_decide_eq_true hkd) (by decide)
            · cases hkd
          · have hvk := of_decide_eq_true hvk
            subst hvk
            split at hkd
            · exact absurd (of_decide_eq_true hkd) (by decide)
            · rename_i heq; cases heq; exact ⟨rfl, rfl⟩
            · rename_i heq; cases heq; exact ⟨rfl, rfl⟩
            · cases hkd
          · cases hvk
        have hset : ∀ H1 : Heap, ((ci_W sz cA C).set k (sz + k, .inr (cc, (fs.map (ci_vl sz)).set b (en_rv (ci_ad sz) v)))) = ci_W sz cA (C.set k (.inl (cc, fs.set b (some v)))) := fun _ => by
          rw [← ci_W_set]
          show _ = (ci_W sz cA C).set k (sz + k, .inr (cc, (fs.set b (some v)).map (ci_vl sz)))
          rw [List.map_set]
          rfl
        have eS : ci_sz (C.set k (.inl (cc, fs.set b (some v)))) = ci_sz C := ci_sz_set hk (by show (fs.set b (some v)).length = fs.length; exact List.length_set)
        have eL : (C.set k (.inl (cc, fs.set b (some v)))).length = C.length := List.length_set
        have fin : ∀ (H1 : Heap) (locs1 : List Loc), va_P D classes ((ci_W sz cA C).set k (sz + k, .inr (cc, (fs.map (ci_vl sz)).set b (en_rv (ci_ad sz) v)))) H1 → va_D (fun q => sz ≤ q) ((ci_W sz cA C).set k (sz + k, .inr (cc, (fs.map (ci_vl sz)).set b (en_rv (ci_ad sz) v)))) → va_S (fun q => sz ≤ q) H0 H1 locs1 → W p l e R s m args below meth c H1 locs1 (C.length - n0) (ci_sz C - s0) Q (F0 m (pc + 3) lsA (r.map (en_rv (ci_ad sz)))) := fun H1 locs1 hP1 _ hS1 => by
          rw [hset H1] at hP1
          refine ci_szW hs0 h1.1.1 hP1 eL hk (fun z1 => ?_)
          have K1 := K H1 locs1 lsA (by dsimp only; rw [eL, eS]; exact h1) ⟨by dsimp only; rw [eL]; exact z1, hP1, hS1, hl⟩
          refine ci_cs ?_ ?_ K1
          · dsimp only; rw [eL]
          · dsimp only; rw [eS]
        have hD0 := ci_D_ok sz cA C
        cases hf9 : (q.2.1 b).2.2.2 with
        | true =>
          rw [hf9] at hfin
          simp only [cond_true, Bool.and_eq_true, decide_eq_true_eq] at hfin
          refine va_putF (C := q.1) (T := q.2.1) (N := q.2.2) hx hb hts hin ty0 hty hnm2 hown hK hP hD0 hS k (fs := fs.map (ci_vl sz)) he hq b hbM (hts _ (en_wd_in hw)) (fun _ h => h) hf9 (hnm (Nat.le_of_ble_eq_true hfin.1)) hfin.2 (hty b hbM) hnf.1 hnf.2 (by rw [List.length_map]; exact hbl) hd fin
        | false =>
          refine va_put (C := q.1) (T := q.2.1) (N := q.2.2) hx hb hts hin ty0 hty hnm2 hown hK hP hD0 hS k (fs := fs.map (ci_vl sz)) he hq b hbM (hts _ (en_wd_in hw)) (fun _ h => h) hf9 (hty b hbM) hnf.1 hnf.2 (by rw [List.length_map]; exact hbl) hd fin
    · cases h
  · cases h
theorem ci_snd_iaload (E : ci_E z p s m args meth c R) (hK : va_K D classes (en_tys cA) s) (hQ : ci_Q s) {n0 s0 NM SM : Nat} (hN : NM ≤ n0 + R.cells) (hM : SM ≤ s0 + R.slots) (hs0 : s.heap.size = sz + n0) : ci_G p l e R s m args below meth c H0 Q z sz cA D n0 s0 NM SM .iaload := by
  intro pc len a b j x ls st C H locs lsA y hc h1 S h K
  obtain ⟨hx, hb, hml, hown, hts, hnm, hfr, hlo⟩ := E
  obtain ⟨hz, hP, hS, hl⟩ := S
  unfold ci_chk at hc
  simp only [Bool.and_eq_true, decide_eq_true_eq] at hc
  unfold ci_st at h
  dsimp only at h
  obtain ⟨hd, hlen⟩ := hc
  have hlen := Nat.eq_of_beq_eq_true hlen
  subst hlen
  split at h
  · rename_i j k o r
    split at h
    · rename_i n k2 xs hk
      split at h
      · rename_i hj
        cases h
        have he := ci_W_at (sz := sz) (cA := cA) hk
        obtain ⟨hin, hix⟩ := nu_ix hj
        refine va_iald (n := n) (f := fun i => Int32.ofInt (xs.getD i 0)) hx hb hK hP k 0 he rfl hin hd ?_
        rw [hix]
        exact K H locs lsA h1 ⟨hz, hP, hS, hl⟩
      · cases h
    · cases h
  · cases h
theorem ci_snd_iastore (E : ci_E z p s m args meth c R) (hK : va_K D classes (en_tys cA) s) (hQ : ci_Q s) {n0 s0 NM SM : Nat} (hN : NM ≤ n0 + R.cells) (hM : SM ≤ s0 + R.slots) (hs0 : s.heap.size = sz + n0) : ci_G p l e R s m args below meth c H0 Q z sz cA D n0 s0 NM SM .iastore := by
  intro pc len a b j x ls st C H locs lsA y hc h1 S h K
  obtain ⟨hx, hb, hml, hown, hts, hnm, hfr, hlo⟩ := E
  obtain ⟨hz, hP, hS, hl⟩ := S
  unfold ci_chk at hc
  simp only [Bool.and_eq_true, decide_eq_true_eq] at hc
  unfold ci_st at h
  dsimp only at h
  obtain ⟨hd, hlen⟩ := hc
  have hlen := Nat.eq_of_beq_eq_true hlen
  subst hlen
  split at h
  · rename_i v j k o r
    split at h
    · rename_i n k2 xs hk
      split at h
      · rename_i hj
        cases h
        have he := ci_W_at (sz := sz) (cA := cA) hk
        obtain ⟨hin, hix⟩ := nu_ix hj
        have eS : ci_sz (C.set k (.inr (0, n, k2, ci_up xs (w32 j).toNat v))) = ci_sz C := ci_sz_set hk rfl
        have eL : (C.set k (.inr (0, n, k2, ci_up xs (w32 j).toNat v))).length = C.length := List.length_set
        have hset : (ci_W sz cA C).set k (sz + k, .inl (cA 0, n, .inl (upd (fun i => Int32.ofInt (xs.getD i 0)) (w32 j).toNat (Int32.ofInt v)))) = ci_W sz cA (C.set k (.inr (0, n, k2, ci_up xs (w32 j).toNat v))) := by
          rw [← ci_W_set]
          congr 1
          show (sz + k, (Sum.inl (cA 0, n, Sum.inl _) : va_E)) = (sz + k, .inl (cA 0, n, .inl (fun i => Int32.ofInt ((ci_up xs (w32 j).toNat v).getD i 0))))
          congr 4
          refine congrArg Sum.inl (funext fun i => ?_)
          rw [ci_up_get]
          unfold upd
          split <;> rfl
        refine va_iast (n := n) (f := fun i => Int32.ofInt (xs.getD i 0)) hx hb hK hP (ci_D_ok sz cA C) hS k 0 he rfl hin hd (fun H1 locs1 hP1 _ hS1 => ?_)
        rw [hix, hset] at hP1
        refine ci_szW hs0 h1.1.1 hP1 eL hk (fun z1 => ?_)
        have K1 := K H1 locs1 lsA (by dsimp only; rw [eL, eS]; exact h1) ⟨by dsimp only; rw [eL]; exact z1, hP1, hS1, hl⟩
        refine ci_cs ?_ ?_ K1
        · dsimp only; rw [eL]
        · dsimp only; rw [eS]
      · cases h
    · cases h
  · cases h
theorem ci_snd_multi (E : ci_E z p s m args meth c R) (hK : va_K D classes (en_tys cA) s) (hQ : ci_Q s) {n0 s0 NM SM : Nat} (hN : NM ≤ n0 + R.cells) (hM : SM ≤ s0 + R.slots) (hs0 : s.heap.size = sz + n0) {kk dd : Nat} : ci_G p l e R s m args below meth c H0 Q z sz cA D n0 s0 NM SM (.multianewarray kk dd) := by
  intro pc len a b j x ls st C H locs lsA y hc h1 S h K
  obtain ⟨hx, hb, hml, hown, hts, hnm, hfr, hlo⟩ := E
  obtain ⟨hz, hP, hS, hl⟩ := S
  unfold ci_chk at hc
  simp only [Bool.and_eq_true, decide_eq_true_eq] at hc
  unfold ci_st at h
  dsimp only at h
  obtain ⟨hd, hlen, hdd, hw, hw3⟩ := hc
  have hlen := Nat.eq_of_beq_eq_true hlen
  subst hlen
  have hdd := Nat.eq_of_beq_eq_true hdd
  subst hdd
  split at h
  · rename_i M N r
    split at h
    · rename_i hr
      cases h
      obtain ⟨⟨⟨hN0, hN1⟩, hM0, hM1⟩, hrc, hrs⟩ := hr
      have eN : (Int32.ofInt N) = nI N.toNat := by
        show _ = Int32.ofNat N.toNat
        rw [nu_nat, Int.toNat_of_nonneg hN0]
      have eM : (Int32.ofInt M) = nI M.toNat := by
        show _ = Int32.ofNat M.toNat
        rw [nu_nat, Int.toNat_of_nonneg hM0]
      have eY : ci_sz (.inr (4, N.toNat, C.length + 1, []) :: List.replicate N.toNat (.inr (0, M.toNat, 0, []))) = N.toNat + N.toNat * M.toNat := by
        show N.toNat + ((List.replicate N.toNat (.inr (0, M.toNat, 0, []) : ci_c)).map ci_s1).sum = _
        rw [List.map_replicate, List.sum_replicate_nat]
        rfl
      generalize hY : ((.inr (4, N.toNat, C.length + 1, []) : ci_c) :: List.replicate N.toNat (.inr (0, M.toNat, 0, []))) = Y at K eY
      have eLY : Y.length = 1 + N.toNat := by rw [← hY, List.length_cons, List.length_replicate]; omega
      have eS : ci_sz (C ++ Y) = ci_sz C + (N.toNat + N.toNat * M.toNat) := by rw [ci_sz_app, eY]
      have eL : (C ++ Y).length = C.length + (1 + N.toNat) := by rw [List.length_append, eLY]
      show W p l e R s m args below meth c H locs (C.length - n0) (ci_sz C - s0) Q (F0 m pc lsA (.int (Int32.ofInt M) :: .int (Int32.ofInt N) :: r.map (en_rv (ci_ad sz))))
      rw [eN, eM]
      refine mr_W hx hb hown (hts _ (en_wd_in hw)) (va_Nw_over hQ.1) (hts _ (en_wd_in hw3)) hd (by omega) (by omega) (by omega) (by omega) (fun H1 locs1 d ci hfd hfc z1 o1 hou hin hL => ?_)
      have g0 : s.vm.findClass ("[" ++ FieldType.int.toString) = some (cA 0) := (hK.2 0 _ rfl).2
      have g4 : s.vm.findClass ("[" ++ (FieldType.array .int).toString) = some (cA 4) := (hK.2 4 _ rfl).2
      have ed : d = cA 0 := Option.some.inj (hfd.symm.trans g0)
      have ec : ci = cA 4 := Option.some.inj (hfc.symm.trans g4)
      subst ed ec
      have hP1 : va_P D classes (ci_W sz cA (C ++ Y)) H1 := ci_push hP hz o1 (fun k w hk => by
        subst hY
        cases k with
        | zero =>
          cases hk
          show H1[H.size]? = some (arrV (cA 4) N.toNat fun j => va_rf (some (sz + (C.length + 1) + j)))
          have ef : (fun j : Nat => Value.ref (H.size + 1 + j)) = fun j => va_rf (some (sz + (C.length + 1) + j)) := by
            funext j
            show Value.ref (H.size + 1 + j) = .ref (sz + (C.length + 1) + j)
            rw [show H.size + 1 + j = sz + (C.length + 1) + j by omega]
          rw [hou, ef]
        | succ k =>
          have hk : (List.replicate N.toNat (.inr (0, M.toNat, 0, []) : ci_c))[k]? = some w := hk
          rw [List.getElem?_replicate] at hk
          split at hk
          · rename_i hlt
            cases hk
            show H1[H.size + (k + 1)]? = some (arrV (cA 0) M.toNat fun j => .int (Int32.ofInt (([] : List Int).getD j 0)))
            have ef : (fun _ : Nat => Value.int 0) = fun j => .int (Int32.ofInt (([] : List Int).getD j 0)) := by
              funext j
              rw [List.getD_eq_getElem?_getD, List.getElem?_nil]
              rfl
            rw [show H.size + (k + 1) = H.size + 1 + k by omega, hin k hlt, ef]
          · cases hk)
      have hS1 : va_S (fun q => sz ≤ q) H0 H1 locs1 := ⟨Nat.le_trans hS.1 (by omega), fun w g1 g2 => (o1 w (Nat.lt_of_lt_of_le g1 hS.1)).trans (hS.2.1 w g1 g2), fun w hw => by
        rcases hL w hw with h9 | h9
        · exact hS.2.2 w h9
        · show sz ≤ w.base
          rw [h9]
          omega⟩
      have K1 := K H1 locs1 lsA (by dsimp only; rw [eL, eS]; omega) ⟨by dsimp only; rw [eL]; omega, hP1, hS1, hl⟩
      rw [hz]
      refine ci_cs ?_ ?_ K1
      · dsimp only; rw [eL]; omega
      · dsimp only; rw [eS]; omega
    · cases h
  · cases h
theorem ci_snd (E : ci_E z p s m args meth c R) (hK : va_K D classes (en_tys cA) s) (hQ : ci_Q s) {n0 s0 NM SM : Nat} (hN : NM ≤ n0 + R.cells) (hM : SM ≤ s0 + R.slots) (hs0 : s.heap.size = sz + n0) (i : Instr) : ci_G p l e R s m args below meth c H0 Q z sz cA D n0 s0 NM SM i := by
  cases i
  case aload_n kk => exact ci_snd_aload_n E hK hQ hN hM hs0
  case iload_n kk => exact ci_snd_iload_n E hK hQ hN hM hs0
  case iload kk => exact ci_snd_iload E hK hQ hN hM hs0
  case istore kk => exact ci_snd_istore E hK hQ hN hM hs0
  case iconst kk => exact ci_snd_iconst E hK hQ hN hM hs0
  case bipush kk => exact ci_snd_bipush E hK hQ hN hM hs0
  case sipush kk => exact ci_snd_sipush E hK hQ hN hM hs0
  case ldc kk => exact ci_snd_ldc E hK hQ hN hM hs0
  case iadd => exact ci_snd_iadd E hK hQ hN hM hs0
  case imul => exact ci_snd_imul E hK hQ hN hM hs0
  case dup => exact ci_snd_dup E hK hQ hN hM hs0
  case goto kk => exact ci_snd_goto E hK hQ hN hM hs0
  case iinc kk cc => exact ci_snd_iinc E hK hQ hN hM hs0
  case new kk => exact ci_snd_new E hK hQ hN hM hs0
  case newarray kk => exact ci_snd_newarray E hK hQ hN hM hs0
  case getfield kk => exact ci_snd_getfield E hK hQ hN hM hs0
  case putfield kk => exact ci_snd_putfield E hK hQ hN hM hs0
  case iaload => exact ci_snd_iaload E hK hQ hN hM hs0
  case iastore => exact ci_snd_iastore E hK hQ hN hM hs0
  case multianewarray kk dd => exact ci_snd_multi E hK hQ hN hM hs0
  case invokestatic kk => exact ci_snd_math E hK hQ hN hM hs0
  case if_icmp cd off =>
    cases cd
    case gt => exact ci_snd_icmp_gt E hK hQ hN hM hs0
    case ge => exact ci_snd_icmp_ge E hK hQ hN hM hs0
    all_goals (intro pc len a b j x ls st C H locs lsA y hc h1 S h K; cases h)
  all_goals (intro pc len a b j x ls st C H locs lsA y hc h1 S h K; cases h)
end CIS

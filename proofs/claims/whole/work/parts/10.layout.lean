def kdT : List Nat := [11, 17, 18, 1, 13, 13, 7, 13, 13, 13, 13, 4, 16, 13, 13, 13, 13, 13, 13, 13, 13, 13, 13, 13, 13, 13, 13, 13, 13, 13, 13, 13, 13, 13, 13, 13, 13, 13, 13, 13, 13, 13, 13, 13, 13, 13, 13, 13, 13, 13, 13, 13, 13, 13, 13, 13, 13, 13, 13, 13, 13, 13, 13, 13, 13, 13, 13, 13, 13, 13, 13, 13, 13, 13, 13, 4, 16, 13, 13, 13, 13, 13, 13, 13, 13, 13, 13, 13, 13, 13, 13, 13, 13, 13, 13, 13, 13, 13, 13, 13, 13, 13, 13, 13, 13, 13, 13, 13, 13, 13, 13, 13, 13, 13, 13, 13, 13, 13, 13, 13, 13, 13, 13, 13, 13, 13, 13, 13, 13, 13, 13, 13, 13, 13, 13, 13, 13, 13, 13, 8, 9, 13, 13, 13, 13, 13, 13, 2, 13, 13, 13, 13, 13, 13, 13, 13, 3, 13, 13, 13, 16, 13, 13, 13, 13, 13, 16, 13, 13, 13, 13, 13, 0, 13, 13, 19, 13, 4, 16, 13, 13, 13, 13, 13, 13, 13, 13, 13, 13, 13, 13, 13, 13, 13, 13, 13, 13, 13, 13, 13, 13, 13, 13, 13, 13, 13, 13, 13, 13, 13, 13, 13, 13, 13, 13, 13, 13, 13, 13, 13, 13, 13, 13, 13, 13, 13, 13, 13, 13, 13, 13, 13, 13, 13, 13, 13, 13, 13, 13, 13, 13, 13, 13, 13, 13, 13, 13, 13, 13, 13, 13, 13, 13, 13, 13, 13, 13, 13, 13, 13, 13, 13, 13, 13, 13, 13, 13, 13, 13, 13, 13, 13, 13, 13, 13, 13, 13, 13, 13, 13, 13, 13, 13, 5, 16, 13, 13, 13, 13, 13, 13, 16, 13, 13, 13, 13, 16, 13, 13, 13, 13, 13, 13, 13, 13, 13, 13, 6, 13, 13, 13, 10, 10, 10, 10, 8, 9, 13, 13, 13, 13, 13, 13, 2, 13, 13, 13, 13, 13, 13, 13, 13, 3, 13, 13, 13, 16, 13, 13, 13, 13, 13, 16, 13, 13, 13, 13, 13, 0, 13, 13, 19, 13, 4, 16, 13, 13, 13, 13, 13, 13, 13, 13, 13, 13, 13, 13, 13, 13, 13, 13, 13, 13, 13, 13, 13, 13, 13, 13, 13, 13, 13, 13, 13, 13, 13, 13, 13, 13, 13, 13, 13, 13, 13, 13, 13, 13, 13, 13, 13, 13, 13, 13, 13, 13, 13, 13, 13, 13, 13, 13, 13, 13, 13, 13, 13, 13, 13, 13, 13, 13, 13, 13, 13, 13, 13, 13, 13, 13, 13, 13, 13, 13, 13, 13, 13, 13, 13, 13, 13, 13, 13, 13, 13, 13, 13, 13, 13, 13, 13, 13, 13, 13, 13, 13, 13, 13, 13, 13, 5, 16, 13, 13, 13, 13, 13, 13, 16, 13, 13, 13, 13, 16, 13, 13, 13, 13, 13, 13, 13, 13, 13, 13, 6, 13, 13, 13, 10, 10, 10, 10, 12, 13, 13, 13, 13, 13, 13, 13, 13, 13, 13, 13, 13, 15, 15, 14, 14, 13, 13, 13, 13, 13, 13, 13, 13, 13, 13, 13, 13, 13, 14, 14, 14, 13, 13, 13, 13, 13, 13, 13, 13, 13, 13, 13, 13, 13, 13, 13, 14, 13, 13, 13, 14, 13, 13, 15, 13, 13, 13, 13, 13, 15]
def lnT : List Nat := [0, 2, 2, 0, 500, 500, 0, 704, 128, 8, 64, 0, 60, 500, 500, 500, 500, 500, 500, 500, 500, 500, 500, 500, 500, 500, 500, 500, 500, 500, 500, 500, 500, 500, 500, 500, 500, 500, 500, 500, 500, 500, 500, 500, 500, 500, 500, 500, 500, 500, 500, 500, 500, 500, 500, 500, 500, 500, 500, 500, 500, 500, 500, 500, 500, 500, 500, 500, 500, 500, 500, 500, 500, 60, 60, 0, 60, 500, 500, 500, 500, 500, 500, 500, 500, 500, 500, 500, 500, 500, 500, 500, 500, 500, 500, 500, 500, 500, 500, 500, 500, 500, 500, 500, 500, 500, 500, 500, 500, 500, 500, 500, 500, 500, 500, 500, 500, 500, 500, 500, 500, 500, 500, 500, 500, 500, 500, 500, 500, 500, 500, 500, 500, 500, 500, 500, 500, 60, 60, 0, 0, 16, 8, 8, 150, 16, 16, 0, 204, 204, 3, 3, 4, 1836, 1836, 1836, 0, 5, 5, 5, 5, 152, 152, 152, 152, 152, 5, 152, 152, 152, 152, 152, 0, 8, 8, 4, 5, 0, 100, 60, 60, 60, 60, 60, 60, 60, 60, 60, 60, 60, 60, 60, 60, 60, 60, 60, 60, 60, 60, 60, 60, 60, 60, 60, 60, 60, 60, 60, 60, 60, 60, 60, 60, 60, 60, 60, 60, 60, 60, 60, 60, 60, 60, 60, 60, 60, 60, 60, 60, 60, 60, 60, 60, 60, 60, 60, 60, 60, 60, 60, 60, 60, 60, 60, 60, 60, 60, 60, 60, 60, 60, 60, 60, 60, 60, 60, 60, 60, 60, 60, 60, 60, 60, 60, 60, 60, 60, 60, 60, 60, 60, 60, 60, 60, 60, 60, 60, 60, 60, 100, 100, 152, 32, 0, 6, 32, 32, 32, 32, 32, 32, 4, 32, 32, 32, 32, 4, 32, 32, 32, 32, 293, 32, 32, 32, 32, 32, 0, 500, 500, 4, 0, 0, 0, 0, 0, 0, 16, 8, 8, 150, 16, 16, 0, 204, 204, 3, 3, 4, 1836, 1836, 1836, 0, 5, 5, 5, 5, 152, 152, 152, 152, 152, 5, 152, 152, 152, 152, 152, 0, 8, 8, 4, 5, 0, 100, 60, 60, 60, 60, 60, 60, 60, 60, 60, 60, 60, 60, 60, 60, 60, 60, 60, 60, 60, 60, 60, 60, 60, 60, 60, 60, 60, 60, 60, 60, 60, 60, 60, 60, 60, 60, 60, 60, 60, 60, 60, 60, 60, 60, 60, 60, 60, 60, 60, 60, 60, 60, 60, 60, 60, 60, 60, 60, 60, 60, 60, 60, 60, 60, 60, 60, 60, 60, 60, 60, 60, 60, 60, 60, 60, 60, 60, 60, 60, 60, 60, 60, 60, 60, 60, 60, 60, 60, 60, 60, 60, 60, 60, 60, 60, 60, 60, 60, 60, 60, 100, 100, 152, 32, 0, 6, 32, 32, 32, 32, 32, 32, 4, 32, 32, 32, 32, 4, 32, 32, 32, 32, 293, 32, 32, 32, 32, 32, 0, 500, 500, 4, 0, 0, 0, 0, 0, 2048, 150, 500, 8, 64, 1400, 8, 64, 32, 64, 32, 2, 2, 2, 2, 2, 32, 2, 120, 60000, 2, 600, 8, 300, 520, 2, 6, 6, 6, 1200, 2, 2, 2, 2, 2, 2, 2, 20000, 2, 16, 16, 2, 2, 2, 2, 20, 2, 2, 16, 16, 16, 3200, 3200, 8, 8, 2, 200, 12000, 560, 520, 1]
def kd0 (k : Nat) : Nat := kdT.getD k 99
def ln0 (k : Nat) : Nat := lnT.getD k 0
abbrev xGm (b : Nat) (dC : Nat → ClassId) (dI : Nat → Nat → Nat) (cA : Nat → ClassId) (ts : Nat → Nat) : xG := (b, dC, dI, cA, kd0, ln0, ts)
def refT : List (Nat × Nat × Nat) := [(0, 0, 1), (0, 1, 2), (0, 2, 3), (0, 3, 5), (1, 0, 11), (1, 1, 75), (2, 0, 139), (2, 1, 315), (3, 0, 4), (6, 0, 7), (6, 1, 8), (6, 2, 9), (6, 3, 10), (11, 2, 12), (11, 3, 73), (11, 4, 74), (12, 0, 13), (12, 1, 14), (12, 2, 15), (12, 3, 16), (12, 4, 17), (12, 5, 18), (12, 6, 19), (12, 7, 20), (12, 8, 21), (12, 9, 22), (12, 10, 23), (12, 11, 24), (12, 12, 25), (12, 13, 26), (12, 14, 27), (12, 15, 28), (12, 16, 29), (12, 17, 30), (12, 18, 31), (12, 19, 32), (12, 20, 33), (12, 21, 34), (12, 22, 35), (12, 23, 36), (12, 24, 37), (12, 25, 38), (12, 26, 39), (12, 27, 40), (12, 28, 41), (12, 29, 42), (12, 30, 43), (12, 31, 44), (12, 32, 45), (12, 33, 46), (12, 34, 47), (12, 35, 48), (12, 36, 49), (12, 37, 50), (12, 38, 51), (12, 39, 52), (12, 40, 53), (12, 41, 54), (12, 42, 55), (12, 43, 56), (12, 44, 57), (12, 45, 58), (12, 46, 59), (12, 47, 60), (12, 48, 61), (12, 49, 62), (12, 50, 63), (12, 51, 64), (12, 52, 65), (12, 53, 66), (12, 54, 67), (12, 55, 68), (12, 56, 69), (12, 57, 70), (12, 58, 71), (12, 59, 72), (75, 2, 76), (75, 3, 137), (75, 4, 138), (76, 0, 77), (76, 1, 78), (76, 2, 79), (76, 3, 80), (76, 4, 81), (76, 5, 82), (76, 6, 83), (76, 7, 84), (76, 8, 85), (76, 9, 86), (76, 10, 87), (76, 11, 88), (76, 12, 89), (76, 13, 90), (76, 14, 91), (76, 15, 92), (76, 16, 93), (76, 17, 94), (76, 18, 95), (76, 19, 96), (76, 20, 97), (76, 21, 98), (76, 22, 99), (76, 23, 100), (76, 24, 101), (76, 25, 102), (76, 26, 103), (76, 27, 104), (76, 28, 105), (76, 29, 106), (76, 30, 107), (76, 31, 108), (76, 32, 109), (76, 33, 110), (76, 34, 111), (76, 35, 112), (76, 36, 113), (76, 37, 114), (76, 38, 115), (76, 39, 116), (76, 40, 117), (76, 41, 118), (76, 42, 119), (76, 43, 120), (76, 44, 121), (76, 45, 122), (76, 46, 123), (76, 47, 124), (76, 48, 125), (76, 49, 126), (76, 50, 127), (76, 51, 128), (76, 52, 129), (76, 53, 130), (76, 54, 131), (76, 55, 132), (76, 56, 133), (76, 57, 134), (76, 58, 135), (76, 59, 136), (139, 1, 140), (139, 2, 283), (139, 3, 307), (139, 4, 147), (139, 5, 156), (139, 6, 172), (139, 7, 175), (139, 8, 176), (139, 9, 177), (139, 10, 281), (139, 11, 282), (140, 0, 141), (140, 1, 142), (140, 2, 143), (140, 3, 144), (140, 9, 145), (140, 10, 146), (147, 0, 148), (147, 1, 149), (147, 2, 150), (147, 3, 151), (147, 4, 152), (147, 5, 153), (147, 6, 154), (147, 7, 155), (156, 0, 157), (156, 1, 158), (156, 2, 159), (156, 3, 160), (156, 4, 166), (160, 0, 161), (160, 1, 162), (160, 2, 163), (160, 3, 164), (160, 4, 165), (166, 0, 167), (166, 1, 168), (166, 2, 169), (166, 3, 170), (166, 4, 171), (172, 0, 173), (172, 1, 174), (175, 0, 311), (175, 1, 312), (175, 2, 313), (175, 3, 314), (177, 2, 178), (177, 3, 279), (177, 4, 280), (178, 0, 179), (178, 1, 180), (178, 2, 181), (178, 3, 182), (178, 4, 183), (178, 5, 184), (178, 6, 185), (178, 7, 186), (178, 8, 187), (178, 9, 188), (178, 10, 189), (178, 11, 190), (178, 12, 191), (178, 13, 192), (178, 14, 193), (178, 15, 194), (178, 16, 195), (178, 17, 196), (178, 18, 197), (178, 19, 198), (178, 20, 199), (178, 21, 200), (178, 22, 201), (178, 23, 202), (178, 24, 203), (178, 25, 204), (178, 26, 205), (178, 27, 206), (178, 28, 207), (178, 29, 208), (178, 30, 209), (178, 31, 210), (178, 32, 211), (178, 33, 212), (178, 34, 213), (178, 35, 214), (178, 36, 215), (178, 37, 216), (178, 38, 217), (178, 39, 218), (178, 40, 219), (178, 41, 220), (178, 42, 221), (178, 43, 222), (178, 44, 223), (178, 45, 224), (178, 46, 225), (178, 47, 226), (178, 48, 227), (178, 49, 228), (178, 50, 229), (178, 51, 230), (178, 52, 231), (178, 53, 232), (178, 54, 233), (178, 55, 234), (178, 56, 235), (178, 57, 236), (178, 58, 237), (178, 59, 238), (178, 60, 239), (178, 61, 240), (178, 62, 241), (178, 63, 242), (178, 64, 243), (178, 65, 244), (178, 66, 245), (178, 67, 246), (178, 68, 247), (178, 69, 248), (178, 70, 249), (178, 71, 250), (178, 72, 251), (178, 73, 252), (178, 74, 253), (178, 75, 254), (178, 76, 255), (178, 77, 256), (178, 78, 257), (178, 79, 258), (178, 80, 259), (178, 81, 260), (178, 82, 261), (178, 83, 262), (178, 84, 263), (178, 85, 264), (178, 86, 265), (178, 87, 266), (178, 88, 267), (178, 89, 268), (178, 90, 269), (178, 91, 270), (178, 92, 271), (178, 93, 272), (178, 94, 273), (178, 95, 274), (178, 96, 275), (178, 97, 276), (178, 98, 277), (178, 99, 278), (283, 0, 6), (283, 1, 284), (283, 2, 291), (283, 3, 296), (283, 4, 301), (283, 5, 302), (283, 6, 303), (283, 7, 304), (283, 8, 305), (283, 9, 306), (284, 0, 285), (284, 1, 286), (284, 2, 287), (284, 3, 288), (284, 4, 289), (284, 5, 290), (291, 0, 292), (291, 1, 293), (291, 2, 294), (291, 3, 295), (296, 0, 297), (296, 1, 298), (296, 2, 299), (296, 3, 300), (307, 1, 75), (307, 2, 283), (307, 3, 308), (307, 4, 309), (307, 5, 310), (315, 1, 316), (315, 2, 459), (315, 3, 483), (315, 4, 323), (315, 5, 332), (315, 6, 348), (315, 7, 351), (315, 8, 352), (315, 9, 353), (315, 10, 457), (315, 11, 458), (316, 0, 317), (316, 1, 318), (316, 2, 319), (316, 3, 320), (316, 9, 321), (316, 10, 322), (323, 0, 324), (323, 1, 325), (323, 2, 326), (323, 3, 327), (323, 4, 328), (323, 5, 329), (323, 6, 330), (323, 7, 331), (332, 0, 333), (332, 1, 334), (332, 2, 335), (332, 3, 336), (332, 4, 342), (336, 0, 337), (336, 1, 338), (336, 2, 339), (336, 3, 340), (336, 4, 341), (342, 0, 343), (342, 1, 344), (342, 2, 345), (342, 3, 346), (342, 4, 347), (348, 0, 349), (348, 1, 350), (351, 0, 487), (351, 1, 488), (351, 2, 489), (351, 3, 490), (353, 2, 354), (353, 3, 455), (353, 4, 456), (354, 0, 355), (354, 1, 356), (354, 2, 357), (354, 3, 358), (354, 4, 359), (354, 5, 360), (354, 6, 361), (354, 7, 362), (354, 8, 363), (354, 9, 364), (354, 10, 365), (354, 11, 366), (354, 12, 367), (354, 13, 368), (354, 14, 369), (354, 15, 370), (354, 16, 371), (354, 17, 372), (354, 18, 373), (354, 19, 374), (354, 20, 375), (354, 21, 376), (354, 22, 377), (354, 23, 378), (354, 24, 379), (354, 25, 380), (354, 26, 381), (354, 27, 382), (354, 28, 383), (354, 29, 384), (354, 30, 385), (354, 31, 386), (354, 32, 387), (354, 33, 388), (354, 34, 389), (354, 35, 390), (354, 36, 391), (354, 37, 392), (354, 38, 393), (354, 39, 394), (354, 40, 395), (354, 41, 396), (354, 42, 397), (354, 43, 398), (354, 44, 399), (354, 45, 400), (354, 46, 401), (354, 47, 402), (354, 48, 403), (354, 49, 404), (354, 50, 405), (354, 51, 406), (354, 52, 407), (354, 53, 408), (354, 54, 409), (354, 55, 410), (354, 56, 411), (354, 57, 412), (354, 58, 413), (354, 59, 414), (354, 60, 415), (354, 61, 416), (354, 62, 417), (354, 63, 418), (354, 64, 419), (354, 65, 420), (354, 66, 421), (354, 67, 422), (354, 68, 423), (354, 69, 424), (354, 70, 425), (354, 71, 426), (354, 72, 427), (354, 73, 428), (354, 74, 429), (354, 75, 430), (354, 76, 431), (354, 77, 432), (354, 78, 433), (354, 79, 434), (354, 80, 435), (354, 81, 436), (354, 82, 437), (354, 83, 438), (354, 84, 439), (354, 85, 440), (354, 86, 441), (354, 87, 442), (354, 88, 443), (354, 89, 444), (354, 90, 445), (354, 91, 446), (354, 92, 447), (354, 93, 448), (354, 94, 449), (354, 95, 450), (354, 96, 451), (354, 97, 452), (354, 98, 453), (354, 99, 454), (459, 0, 6), (459, 1, 460), (459, 2, 467), (459, 3, 472), (459, 4, 477), (459, 5, 478), (459, 6, 479), (459, 7, 480), (459, 8, 481), (459, 9, 482), (460, 0, 461), (460, 1, 462), (460, 2, 463), (460, 3, 464), (460, 4, 465), (460, 5, 466), (467, 0, 468), (467, 1, 469), (467, 2, 470), (467, 3, 471), (472, 0, 473), (472, 1, 474), (472, 2, 475), (472, 3, 476), (483, 1, 11), (483, 2, 459), (483, 3, 484), (483, 4, 485), (483, 5, 486), (491, 5, 492), (491, 6, 493), (491, 8, 494), (491, 10, 495), (491, 11, 496), (491, 12, 497), (491, 14, 498), (491, 15, 499), (491, 16, 500), (491, 17, 501), (491, 18, 502), (491, 19, 503), (491, 20, 504), (491, 21, 505), (491, 22, 506), (491, 23, 507), (491, 24, 508), (491, 25, 509), (491, 26, 510), (491, 27, 511), (491, 28, 512), (491, 29, 513), (491, 31, 514), (491, 32, 515), (491, 34, 516), (491, 35, 517), (491, 36, 518), (491, 37, 519), (491, 38, 520), (491, 39, 521), (491, 40, 522), (491, 41, 523), (491, 42, 524), (491, 43, 525), (491, 44, 526), (491, 45, 527), (491, 46, 528), (491, 47, 529), (491, 48, 530), (491, 49, 531), (491, 50, 532), (491, 51, 533), (491, 52, 534), (491, 53, 535), (491, 54, 536), (491, 55, 537), (491, 56, 538), (491, 57, 539), (491, 59, 540), (491, 60, 541), (491, 61, 542), (491, 62, 543), (491, 63, 544), (491, 64, 545), (491, 65, 546), (491, 66, 547), (491, 67, 548), (491, 68, 549), (491, 69, 550), (491, 71, 551)]
/-- the references, once all is made -/
def xRk (R : Nat → Nat → Option Nat) : Prop := ∀ q ∈ refT, R q.1 q.2.1 = some q.2.2
theorem kd_0 : kd0 0 = 11 := by decide +kernel
theorem ln_0 : ln0 0 = 0 := by decide +kernel
theorem kd_1 : kd0 1 = 17 := by decide +kernel
theorem ln_1 : ln0 1 = 2 := by decide +kernel
theorem kd_2 : kd0 2 = 18 := by decide +kernel
theorem ln_2 : ln0 2 = 2 := by decide +kernel
theorem kd_3 : kd0 3 = 1 := by decide +kernel
theorem ln_3 : ln0 3 = 0 := by decide +kernel
theorem kd_4 : kd0 4 = 13 := by decide +kernel
theorem ln_4 : ln0 4 = 500 := by decide +kernel
theorem kd_5 : kd0 5 = 13 := by decide +kernel
theorem ln_5 : ln0 5 = 500 := by decide +kernel
theorem kd_6 : kd0 6 = 7 := by decide +kernel
theorem ln_6 : ln0 6 = 0 := by decide +kernel
theorem kd_7 : kd0 7 = 13 := by decide +kernel
theorem ln_7 : ln0 7 = 704 := by decide +kernel
theorem kd_8 : kd0 8 = 13 := by decide +kernel
theorem ln_8 : ln0 8 = 128 := by decide +kernel
theorem kd_9 : kd0 9 = 13 := by decide +kernel
theorem ln_9 : ln0 9 = 8 := by decide +kernel
theorem kd_10 : kd0 10 = 13 := by decide +kernel
theorem ln_10 : ln0 10 = 64 := by decide +kernel
theorem kd_11 : kd0 11 = 4 := by decide +kernel
theorem ln_11 : ln0 11 = 0 := by decide +kernel
theorem kd_12 : kd0 12 = 16 := by decide +kernel
theorem ln_12 : ln0 12 = 60 := by decide +kernel
theorem kd_73 : kd0 73 = 13 := by decide +kernel
theorem ln_73 : ln0 73 = 60 := by decide +kernel
theorem kd_74 : kd0 74 = 13 := by decide +kernel
theorem ln_74 : ln0 74 = 60 := by decide +kernel
theorem kd_75 : kd0 75 = 4 := by decide +kernel
theorem ln_75 : ln0 75 = 0 := by decide +kernel
theorem kd_76 : kd0 76 = 16 := by decide +kernel
theorem ln_76 : ln0 76 = 60 := by decide +kernel
theorem kd_137 : kd0 137 = 13 := by decide +kernel
theorem ln_137 : ln0 137 = 60 := by decide +kernel
theorem kd_138 : kd0 138 = 13 := by decide +kernel
theorem ln_138 : ln0 138 = 60 := by decide +kernel
theorem kd_491 : kd0 491 = 12 := by decide +kernel
theorem ln_491 : ln0 491 = 0 := by decide +kernel
theorem kd_492 : kd0 492 = 13 := by decide +kernel
theorem ln_492 : ln0 492 = 2048 := by decide +kernel
theorem kd_493 : kd0 493 = 13 := by decide +kernel
theorem ln_493 : ln0 493 = 150 := by decide +kernel
theorem kd_494 : kd0 494 = 13 := by decide +kernel
theorem ln_494 : ln0 494 = 500 := by decide +kernel
theorem kd_495 : kd0 495 = 13 := by decide +kernel
theorem ln_495 : ln0 495 = 8 := by decide +kernel
theorem kd_496 : kd0 496 = 13 := by decide +kernel
theorem ln_496 : ln0 496 = 64 := by decide +kernel
theorem kd_497 : kd0 497 = 13 := by decide +kernel
theorem ln_497 : ln0 497 = 1400 := by decide +kernel
theorem kd_498 : kd0 498 = 13 := by decide +kernel
theorem ln_498 : ln0 498 = 8 := by decide +kernel
theorem kd_499 : kd0 499 = 13 := by decide +kernel
theorem ln_499 : ln0 499 = 64 := by decide +kernel
theorem kd_500 : kd0 500 = 13 := by decide +kernel
theorem ln_500 : ln0 500 = 32 := by decide +kernel
theorem kd_501 : kd0 501 = 13 := by decide +kernel
theorem ln_501 : ln0 501 = 64 := by decide +kernel
theorem kd_502 : kd0 502 = 13 := by decide +kernel
theorem ln_502 : ln0 502 = 32 := by decide +kernel
theorem kd_503 : kd0 503 = 13 := by decide +kernel
theorem ln_503 : ln0 503 = 2 := by decide +kernel
theorem kd_504 : kd0 504 = 15 := by decide +kernel
theorem ln_504 : ln0 504 = 2 := by decide +kernel
theorem kd_505 : kd0 505 = 15 := by decide +kernel
theorem ln_505 : ln0 505 = 2 := by decide +kernel
theorem kd_506 : kd0 506 = 14 := by decide +kernel
theorem ln_506 : ln0 506 = 2 := by decide +kernel
theorem kd_507 : kd0 507 = 14 := by decide +kernel
theorem ln_507 : ln0 507 = 2 := by decide +kernel
theorem kd_508 : kd0 508 = 13 := by decide +kernel
theorem ln_508 : ln0 508 = 32 := by decide +kernel
theorem kd_509 : kd0 509 = 13 := by decide +kernel
theorem ln_509 : ln0 509 = 2 := by decide +kernel
theorem kd_510 : kd0 510 = 13 := by decide +kernel
theorem ln_510 : ln0 510 = 120 := by decide +kernel
theorem kd_511 : kd0 511 = 13 := by decide +kernel
theorem ln_511 : ln0 511 = 60000 := by decide +kernel
theorem kd_512 : kd0 512 = 13 := by decide +kernel
theorem ln_512 : ln0 512 = 2 := by decide +kernel
theorem kd_513 : kd0 513 = 13 := by decide +kernel
theorem ln_513 : ln0 513 = 600 := by decide +kernel
theorem kd_514 : kd0 514 = 13 := by decide +kernel
theorem ln_514 : ln0 514 = 8 := by decide +kernel
theorem kd_515 : kd0 515 = 13 := by decide +kernel
theorem ln_515 : ln0 515 = 300 := by decide +kernel
theorem kd_516 : kd0 516 = 13 := by decide +kernel
theorem ln_516 : ln0 516 = 520 := by decide +kernel
theorem kd_517 : kd0 517 = 13 := by decide +kernel
theorem ln_517 : ln0 517 = 2 := by decide +kernel
theorem kd_518 : kd0 518 = 13 := by decide +kernel
theorem ln_518 : ln0 518 = 6 := by decide +kernel
theorem kd_519 : kd0 519 = 13 := by decide +kernel
theorem ln_519 : ln0 519 = 6 := by decide +kernel
theorem kd_520 : kd0 520 = 13 := by decide +kernel
theorem ln_520 : ln0 520 = 6 := by decide +kernel
theorem kd_521 : kd0 521 = 14 := by decide +kernel
theorem ln_521 : ln0 521 = 1200 := by decide +kernel
theorem kd_522 : kd0 522 = 14 := by decide +kernel
theorem ln_522 : ln0 522 = 2 := by decide +kernel
theorem kd_523 : kd0 523 = 14 := by decide +kernel
theorem ln_523 : ln0 523 = 2 := by decide +kernel
theorem kd_524 : kd0 524 = 13 := by decide +kernel
theorem ln_524 : ln0 524 = 2 := by decide +kernel
theorem kd_525 : kd0 525 = 13 := by decide +kernel
theorem ln_525 : ln0 525 = 2 := by decide +kernel
theorem kd_526 : kd0 526 = 13 := by decide +kernel
theorem ln_526 : ln0 526 = 2 := by decide +kernel
theorem kd_527 : kd0 527 = 13 := by decide +kernel
theorem ln_527 : ln0 527 = 2 := by decide +kernel
theorem kd_528 : kd0 528 = 13 := by decide +kernel
theorem ln_528 : ln0 528 = 2 := by decide +kernel
theorem kd_529 : kd0 529 = 13 := by decide +kernel
theorem ln_529 : ln0 529 = 20000 := by decide +kernel
theorem kd_530 : kd0 530 = 13 := by decide +kernel
theorem ln_530 : ln0 530 = 2 := by decide +kernel
theorem kd_531 : kd0 531 = 13 := by decide +kernel
theorem ln_531 : ln0 531 = 16 := by decide +kernel
theorem kd_532 : kd0 532 = 13 := by decide +kernel
theorem ln_532 : ln0 532 = 16 := by decide +kernel
theorem kd_533 : kd0 533 = 13 := by decide +kernel
theorem ln_533 : ln0 533 = 2 := by decide +kernel
theorem kd_534 : kd0 534 = 13 := by decide +kernel
theorem ln_534 : ln0 534 = 2 := by decide +kernel
theorem kd_535 : kd0 535 = 13 := by decide +kernel
theorem ln_535 : ln0 535 = 2 := by decide +kernel
theorem kd_536 : kd0 536 = 13 := by decide +kernel
theorem ln_536 : ln0 536 = 2 := by decide +kernel
theorem kd_537 : kd0 537 = 13 := by decide +kernel
theorem ln_537 : ln0 537 = 20 := by decide +kernel
theorem kd_538 : kd0 538 = 13 := by decide +kernel
theorem ln_538 : ln0 538 = 2 := by decide +kernel
theorem kd_539 : kd0 539 = 14 := by decide +kernel
theorem ln_539 : ln0 539 = 2 := by decide +kernel
theorem kd_540 : kd0 540 = 13 := by decide +kernel
theorem ln_540 : ln0 540 = 16 := by decide +kernel
theorem kd_541 : kd0 541 = 13 := by decide +kernel
theorem ln_541 : ln0 541 = 16 := by decide +kernel
theorem kd_542 : kd0 542 = 13 := by decide +kernel
theorem ln_542 : ln0 542 = 16 := by decide +kernel
theorem kd_543 : kd0 543 = 14 := by decide +kernel
theorem ln_543 : ln0 543 = 3200 := by decide +kernel
theorem kd_544 : kd0 544 = 13 := by decide +kernel
theorem ln_544 : ln0 544 = 3200 := by decide +kernel
theorem kd_545 : kd0 545 = 13 := by decide +kernel
theorem ln_545 : ln0 545 = 8 := by decide +kernel
theorem kd_546 : kd0 546 = 15 := by decide +kernel
theorem ln_546 : ln0 546 = 8 := by decide +kernel
theorem kd_547 : kd0 547 = 13 := by decide +kernel
theorem ln_547 : ln0 547 = 2 := by decide +kernel
theorem kd_548 : kd0 548 = 13 := by decide +kernel
theorem ln_548 : ln0 548 = 200 := by decide +kernel
theorem kd_549 : kd0 549 = 13 := by decide +kernel
theorem ln_549 : ln0 549 = 12000 := by decide +kernel
theorem kd_550 : kd0 550 = 13 := by decide +kernel
theorem ln_550 : ln0 550 = 560 := by decide +kernel
theorem kd_551 : kd0 551 = 13 := by decide +kernel
theorem ln_551 : ln0 551 = 520 := by decide +kernel
theorem kd_552 : kd0 552 = 15 := by decide +kernel
theorem ln_552 : ln0 552 = 1 := by decide +kernel
theorem kdS_0 {e : Nat} (he : e = 139 ∨ e = 315) : kd0 (e + 0) = 8 := by rcases he with rfl | rfl <;> decide +kernel
theorem lnS_0 {e : Nat} (he : e = 139 ∨ e = 315) : ln0 (e + 0) = 0 := by rcases he with rfl | rfl <;> decide +kernel
theorem kdS_1 {e : Nat} (he : e = 139 ∨ e = 315) : kd0 (e + 1) = 9 := by rcases he with rfl | rfl <;> decide +kernel
theorem lnS_1 {e : Nat} (he : e = 139 ∨ e = 315) : ln0 (e + 1) = 0 := by rcases he with rfl | rfl <;> decide +kernel
theorem kdS_2 {e : Nat} (he : e = 139 ∨ e = 315) : kd0 (e + 2) = 13 := by rcases he with rfl | rfl <;> decide +kernel
theorem lnS_2 {e : Nat} (he : e = 139 ∨ e = 315) : ln0 (e + 2) = 16 := by rcases he with rfl | rfl <;> decide +kernel
theorem kdS_3 {e : Nat} (he : e = 139 ∨ e = 315) : kd0 (e + 3) = 13 := by rcases he with rfl | rfl <;> decide +kernel
theorem lnS_3 {e : Nat} (he : e = 139 ∨ e = 315) : ln0 (e + 3) = 8 := by rcases he with rfl | rfl <;> decide +kernel
theorem kdS_4 {e : Nat} (he : e = 139 ∨ e = 315) : kd0 (e + 4) = 13 := by rcases he with rfl | rfl <;> decide +kernel
theorem lnS_4 {e : Nat} (he : e = 139 ∨ e = 315) : ln0 (e + 4) = 8 := by rcases he with rfl | rfl <;> decide +kernel
theorem kdS_5 {e : Nat} (he : e = 139 ∨ e = 315) : kd0 (e + 5) = 13 := by rcases he with rfl | rfl <;> decide +kernel
theorem lnS_5 {e : Nat} (he : e = 139 ∨ e = 315) : ln0 (e + 5) = 150 := by rcases he with rfl | rfl <;> decide +kernel
theorem kdS_6 {e : Nat} (he : e = 139 ∨ e = 315) : kd0 (e + 6) = 13 := by rcases he with rfl | rfl <;> decide +kernel
theorem lnS_6 {e : Nat} (he : e = 139 ∨ e = 315) : ln0 (e + 6) = 16 := by rcases he with rfl | rfl <;> decide +kernel
theorem kdS_7 {e : Nat} (he : e = 139 ∨ e = 315) : kd0 (e + 7) = 13 := by rcases he with rfl | rfl <;> decide +kernel
theorem lnS_7 {e : Nat} (he : e = 139 ∨ e = 315) : ln0 (e + 7) = 16 := by rcases he with rfl | rfl <;> decide +kernel
theorem kdS_8 {e : Nat} (he : e = 139 ∨ e = 315) : kd0 (e + 8) = 2 := by rcases he with rfl | rfl <;> decide +kernel
theorem lnS_8 {e : Nat} (he : e = 139 ∨ e = 315) : ln0 (e + 8) = 0 := by rcases he with rfl | rfl <;> decide +kernel
theorem kdS_9 {e : Nat} (he : e = 139 ∨ e = 315) : kd0 (e + 9) = 13 := by rcases he with rfl | rfl <;> decide +kernel
theorem lnS_9 {e : Nat} (he : e = 139 ∨ e = 315) : ln0 (e + 9) = 204 := by rcases he with rfl | rfl <;> decide +kernel
theorem kdS_10 {e : Nat} (he : e = 139 ∨ e = 315) : kd0 (e + 10) = 13 := by rcases he with rfl | rfl <;> decide +kernel
theorem lnS_10 {e : Nat} (he : e = 139 ∨ e = 315) : ln0 (e + 10) = 204 := by rcases he with rfl | rfl <;> decide +kernel
theorem kdS_11 {e : Nat} (he : e = 139 ∨ e = 315) : kd0 (e + 11) = 13 := by rcases he with rfl | rfl <;> decide +kernel
theorem lnS_11 {e : Nat} (he : e = 139 ∨ e = 315) : ln0 (e + 11) = 3 := by rcases he with rfl | rfl <;> decide +kernel
theorem kdS_12 {e : Nat} (he : e = 139 ∨ e = 315) : kd0 (e + 12) = 13 := by rcases he with rfl | rfl <;> decide +kernel
theorem lnS_12 {e : Nat} (he : e = 139 ∨ e = 315) : ln0 (e + 12) = 3 := by rcases he with rfl | rfl <;> decide +kernel
theorem kdS_13 {e : Nat} (he : e = 139 ∨ e = 315) : kd0 (e + 13) = 13 := by rcases he with rfl | rfl <;> decide +kernel
theorem lnS_13 {e : Nat} (he : e = 139 ∨ e = 315) : ln0 (e + 13) = 4 := by rcases he with rfl | rfl <;> decide +kernel
theorem kdS_14 {e : Nat} (he : e = 139 ∨ e = 315) : kd0 (e + 14) = 13 := by rcases he with rfl | rfl <;> decide +kernel
theorem lnS_14 {e : Nat} (he : e = 139 ∨ e = 315) : ln0 (e + 14) = 1836 := by rcases he with rfl | rfl <;> decide +kernel
theorem kdS_15 {e : Nat} (he : e = 139 ∨ e = 315) : kd0 (e + 15) = 13 := by rcases he with rfl | rfl <;> decide +kernel
theorem lnS_15 {e : Nat} (he : e = 139 ∨ e = 315) : ln0 (e + 15) = 1836 := by rcases he with rfl | rfl <;> decide +kernel
theorem kdS_16 {e : Nat} (he : e = 139 ∨ e = 315) : kd0 (e + 16) = 13 := by rcases he with rfl | rfl <;> decide +kernel
theorem lnS_16 {e : Nat} (he : e = 139 ∨ e = 315) : ln0 (e + 16) = 1836 := by rcases he with rfl | rfl <;> decide +kernel
theorem kdS_17 {e : Nat} (he : e = 139 ∨ e = 315) : kd0 (e + 17) = 3 := by rcases he with rfl | rfl <;> decide +kernel
theorem lnS_17 {e : Nat} (he : e = 139 ∨ e = 315) : ln0 (e + 17) = 0 := by rcases he with rfl | rfl <;> decide +kernel
theorem kdS_18 {e : Nat} (he : e = 139 ∨ e = 315) : kd0 (e + 18) = 13 := by rcases he with rfl | rfl <;> decide +kernel
theorem lnS_18 {e : Nat} (he : e = 139 ∨ e = 315) : ln0 (e + 18) = 5 := by rcases he with rfl | rfl <;> decide +kernel
theorem kdS_19 {e : Nat} (he : e = 139 ∨ e = 315) : kd0 (e + 19) = 13 := by rcases he with rfl | rfl <;> decide +kernel
theorem lnS_19 {e : Nat} (he : e = 139 ∨ e = 315) : ln0 (e + 19) = 5 := by rcases he with rfl | rfl <;> decide +kernel
theorem kdS_20 {e : Nat} (he : e = 139 ∨ e = 315) : kd0 (e + 20) = 13 := by rcases he with rfl | rfl <;> decide +kernel
theorem lnS_20 {e : Nat} (he : e = 139 ∨ e = 315) : ln0 (e + 20) = 5 := by rcases he with rfl | rfl <;> decide +kernel
theorem kdS_21 {e : Nat} (he : e = 139 ∨ e = 315) : kd0 (e + 21) = 16 := by rcases he with rfl | rfl <;> decide +kernel
theorem lnS_21 {e : Nat} (he : e = 139 ∨ e = 315) : ln0 (e + 21) = 5 := by rcases he with rfl | rfl <;> decide +kernel
theorem kdS_22 {e : Nat} (he : e = 139 ∨ e = 315) : kd0 (e + 22) = 13 := by rcases he with rfl | rfl <;> decide +kernel
theorem lnS_22 {e : Nat} (he : e = 139 ∨ e = 315) : ln0 (e + 22) = 152 := by rcases he with rfl | rfl <;> decide +kernel
theorem kdS_23 {e : Nat} (he : e = 139 ∨ e = 315) : kd0 (e + 23) = 13 := by rcases he with rfl | rfl <;> decide +kernel
theorem lnS_23 {e : Nat} (he : e = 139 ∨ e = 315) : ln0 (e + 23) = 152 := by rcases he with rfl | rfl <;> decide +kernel
theorem kdS_24 {e : Nat} (he : e = 139 ∨ e = 315) : kd0 (e + 24) = 13 := by rcases he with rfl | rfl <;> decide +kernel
theorem lnS_24 {e : Nat} (he : e = 139 ∨ e = 315) : ln0 (e + 24) = 152 := by rcases he with rfl | rfl <;> decide +kernel
theorem kdS_25 {e : Nat} (he : e = 139 ∨ e = 315) : kd0 (e + 25) = 13 := by rcases he with rfl | rfl <;> decide +kernel
theorem lnS_25 {e : Nat} (he : e = 139 ∨ e = 315) : ln0 (e + 25) = 152 := by rcases he with rfl | rfl <;> decide +kernel
theorem kdS_26 {e : Nat} (he : e = 139 ∨ e = 315) : kd0 (e + 26) = 13 := by rcases he with rfl | rfl <;> decide +kernel
theorem lnS_26 {e : Nat} (he : e = 139 ∨ e = 315) : ln0 (e + 26) = 152 := by rcases he with rfl | rfl <;> decide +kernel
theorem kdS_27 {e : Nat} (he : e = 139 ∨ e = 315) : kd0 (e + 27) = 16 := by rcases he with rfl | rfl <;> decide +kernel
theorem lnS_27 {e : Nat} (he : e = 139 ∨ e = 315) : ln0 (e + 27) = 5 := by rcases he with rfl | rfl <;> decide +kernel
theorem kdS_28 {e : Nat} (he : e = 139 ∨ e = 315) : kd0 (e + 28) = 13 := by rcases he with rfl | rfl <;> decide +kernel
theorem lnS_28 {e : Nat} (he : e = 139 ∨ e = 315) : ln0 (e + 28) = 152 := by rcases he with rfl | rfl <;> decide +kernel
theorem kdS_29 {e : Nat} (he : e = 139 ∨ e = 315) : kd0 (e + 29) = 13 := by rcases he with rfl | rfl <;> decide +kernel
theorem lnS_29 {e : Nat} (he : e = 139 ∨ e = 315) : ln0 (e + 29) = 152 := by rcases he with rfl | rfl <;> decide +kernel
theorem kdS_30 {e : Nat} (he : e = 139 ∨ e = 315) : kd0 (e + 30) = 13 := by rcases he with rfl | rfl <;> decide +kernel
theorem lnS_30 {e : Nat} (he : e = 139 ∨ e = 315) : ln0 (e + 30) = 152 := by rcases he with rfl | rfl <;> decide +kernel
theorem kdS_31 {e : Nat} (he : e = 139 ∨ e = 315) : kd0 (e + 31) = 13 := by rcases he with rfl | rfl <;> decide +kernel
theorem lnS_31 {e : Nat} (he : e = 139 ∨ e = 315) : ln0 (e + 31) = 152 := by rcases he with rfl | rfl <;> decide +kernel
theorem kdS_32 {e : Nat} (he : e = 139 ∨ e = 315) : kd0 (e + 32) = 13 := by rcases he with rfl | rfl <;> decide +kernel
theorem lnS_32 {e : Nat} (he : e = 139 ∨ e = 315) : ln0 (e + 32) = 152 := by rcases he with rfl | rfl <;> decide +kernel
theorem kdS_33 {e : Nat} (he : e = 139 ∨ e = 315) : kd0 (e + 33) = 0 := by rcases he with rfl | rfl <;> decide +kernel
theorem lnS_33 {e : Nat} (he : e = 139 ∨ e = 315) : ln0 (e + 33) = 0 := by rcases he with rfl | rfl <;> decide +kernel
theorem kdS_34 {e : Nat} (he : e = 139 ∨ e = 315) : kd0 (e + 34) = 13 := by rcases he with rfl | rfl <;> decide +kernel
theorem lnS_34 {e : Nat} (he : e = 139 ∨ e = 315) : ln0 (e + 34) = 8 := by rcases he with rfl | rfl <;> decide +kernel
theorem kdS_35 {e : Nat} (he : e = 139 ∨ e = 315) : kd0 (e + 35) = 13 := by rcases he with rfl | rfl <;> decide +kernel
theorem lnS_35 {e : Nat} (he : e = 139 ∨ e = 315) : ln0 (e + 35) = 8 := by rcases he with rfl | rfl <;> decide +kernel
theorem kdS_36 {e : Nat} (he : e = 139 ∨ e = 315) : kd0 (e + 36) = 19 := by rcases he with rfl | rfl <;> decide +kernel
theorem lnS_36 {e : Nat} (he : e = 139 ∨ e = 315) : ln0 (e + 36) = 4 := by rcases he with rfl | rfl <;> decide +kernel
theorem kdS_37 {e : Nat} (he : e = 139 ∨ e = 315) : kd0 (e + 37) = 13 := by rcases he with rfl | rfl <;> decide +kernel
theorem lnS_37 {e : Nat} (he : e = 139 ∨ e = 315) : ln0 (e + 37) = 5 := by rcases he with rfl | rfl <;> decide +kernel
theorem kdS_38 {e : Nat} (he : e = 139 ∨ e = 315) : kd0 (e + 38) = 4 := by rcases he with rfl | rfl <;> decide +kernel
theorem lnS_38 {e : Nat} (he : e = 139 ∨ e = 315) : ln0 (e + 38) = 0 := by rcases he with rfl | rfl <;> decide +kernel
theorem kdS_39 {e : Nat} (he : e = 139 ∨ e = 315) : kd0 (e + 39) = 16 := by rcases he with rfl | rfl <;> decide +kernel
theorem lnS_39 {e : Nat} (he : e = 139 ∨ e = 315) : ln0 (e + 39) = 100 := by rcases he with rfl | rfl <;> decide +kernel
theorem kdS_40 {e : Nat} (he : e = 139 ∨ e = 315) : kd0 (e + 40) = 13 := by rcases he with rfl | rfl <;> decide +kernel
theorem lnS_40 {e : Nat} (he : e = 139 ∨ e = 315) : ln0 (e + 40) = 60 := by rcases he with rfl | rfl <;> decide +kernel
theorem kdS_41 {e : Nat} (he : e = 139 ∨ e = 315) : kd0 (e + 41) = 13 := by rcases he with rfl | rfl <;> decide +kernel
theorem lnS_41 {e : Nat} (he : e = 139 ∨ e = 315) : ln0 (e + 41) = 60 := by rcases he with rfl | rfl <;> decide +kernel
theorem kdS_42 {e : Nat} (he : e = 139 ∨ e = 315) : kd0 (e + 42) = 13 := by rcases he with rfl | rfl <;> decide +kernel
theorem lnS_42 {e : Nat} (he : e = 139 ∨ e = 315) : ln0 (e + 42) = 60 := by rcases he with rfl | rfl <;> decide +kernel
theorem kdS_43 {e : Nat} (he : e = 139 ∨ e = 315) : kd0 (e + 43) = 13 := by rcases he with rfl | rfl <;> decide +kernel
theorem lnS_43 {e : Nat} (he : e = 139 ∨ e = 315) : ln0 (e + 43) = 60 := by rcases he with rfl | rfl <;> decide +kernel
theorem kdS_44 {e : Nat} (he : e = 139 ∨ e = 315) : kd0 (e + 44) = 13 := by rcases he with rfl | rfl <;> decide +kernel
theorem lnS_44 {e : Nat} (he : e = 139 ∨ e = 315) : ln0 (e + 44) = 60 := by rcases he with rfl | rfl <;> decide +kernel
theorem kdS_45 {e : Nat} (he : e = 139 ∨ e = 315) : kd0 (e + 45) = 13 := by rcases he with rfl | rfl <;> decide +kernel
theorem lnS_45 {e : Nat} (he : e = 139 ∨ e = 315) : ln0 (e + 45) = 60 := by rcases he with rfl | rfl <;> decide +kernel
theorem kdS_46 {e : Nat} (he : e = 139 ∨ e = 315) : kd0 (e + 46) = 13 := by rcases he with rfl | rfl <;> decide +kernel
theorem lnS_46 {e : Nat} (he : e = 139 ∨ e = 315) : ln0 (e + 46) = 60 := by rcases he with rfl | rfl <;> decide +kernel
theorem kdS_47 {e : Nat} (he : e = 139 ∨ e = 315) : kd0 (e + 47) = 13 := by rcases he with rfl | rfl <;> decide +kernel
theorem lnS_47 {e : Nat} (he : e = 139 ∨ e = 315) : ln0 (e + 47) = 60 := by rcases he with rfl | rfl <;> decide +kernel
theorem kdS_48 {e : Nat} (he : e = 139 ∨ e = 315) : kd0 (e + 48) = 13 := by rcases he with rfl | rfl <;> decide +kernel
theorem lnS_48 {e : Nat} (he : e = 139 ∨ e = 315) : ln0 (e + 48) = 60 := by rcases he with rfl | rfl <;> decide +kernel
theorem kdS_49 {e : Nat} (he : e = 139 ∨ e = 315) : kd0 (e + 49) = 13 := by rcases he with rfl | rfl <;> decide +kernel
theorem lnS_49 {e : Nat} (he : e = 139 ∨ e = 315) : ln0 (e + 49) = 60 := by rcases he with rfl | rfl <;> decide +kernel
theorem kdS_50 {e : Nat} (he : e = 139 ∨ e = 315) : kd0 (e + 50) = 13 := by rcases he with rfl | rfl <;> decide +kernel
theorem lnS_50 {e : Nat} (he : e = 139 ∨ e = 315) : ln0 (e + 50) = 60 := by rcases he with rfl | rfl <;> decide +kernel
theorem kdS_51 {e : Nat} (he : e = 139 ∨ e = 315) : kd0 (e + 51) = 13 := by rcases he with rfl | rfl <;> decide +kernel
theorem lnS_51 {e : Nat} (he : e = 139 ∨ e = 315) : ln0 (e + 51) = 60 := by rcases he with rfl | rfl <;> decide +kernel
theorem kdS_52 {e : Nat} (he : e = 139 ∨ e = 315) : kd0 (e + 52) = 13 := by rcases he with rfl | rfl <;> decide +kernel
theorem lnS_52 {e : Nat} (he : e = 139 ∨ e = 315) : ln0 (e + 52) = 60 := by rcases he with rfl | rfl <;> decide +kernel
theorem kdS_53 {e : Nat} (he : e = 139 ∨ e = 315) : kd0 (e + 53) = 13 := by rcases he with rfl | rfl <;> decide +kernel
theorem lnS_53 {e : Nat} (he : e = 139 ∨ e = 315) : ln0 (e + 53) = 60 := by rcases he with rfl | rfl <;> decide +kernel
theorem kdS_54 {e : Nat} (he : e = 139 ∨ e = 315) : kd0 (e + 54) = 13 := by rcases he with rfl | rfl <;> decide +kernel
theorem lnS_54 {e : Nat} (he : e = 139 ∨ e = 315) : ln0 (e + 54) = 60 := by rcases he with rfl | rfl <;> decide +kernel
theorem kdS_55 {e : Nat} (he : e = 139 ∨ e = 315) : kd0 (e + 55) = 13 := by rcases he with rfl | rfl <;> decide +kernel
theorem lnS_55 {e : Nat} (he : e = 139 ∨ e = 315) : ln0 (e + 55) = 60 := by rcases he with rfl | rfl <;> decide +kernel
theorem kdS_56 {e : Nat} (he : e = 139 ∨ e = 315) : kd0 (e + 56) = 13 := by rcases he with rfl | rfl <;> decide +kernel
theorem lnS_56 {e : Nat} (he : e = 139 ∨ e = 315) : ln0 (e + 56) = 60 := by rcases he with rfl | rfl <;> decide +kernel
theorem kdS_57 {e : Nat} (he : e = 139 ∨ e = 315) : kd0 (e + 57) = 13 := by rcases he with rfl | rfl <;> decide +kernel
theorem lnS_57 {e : Nat} (he : e = 139 ∨ e = 315) : ln0 (e + 57) = 60 := by rcases he with rfl | rfl <;> decide +kernel
theorem kdS_58 {e : Nat} (he : e = 139 ∨ e = 315) : kd0 (e + 58) = 13 := by rcases he with rfl | rfl <;> decide +kernel
theorem lnS_58 {e : Nat} (he : e = 139 ∨ e = 315) : ln0 (e + 58) = 60 := by rcases he with rfl | rfl <;> decide +kernel
theorem kdS_59 {e : Nat} (he : e = 139 ∨ e = 315) : kd0 (e + 59) = 13 := by rcases he with rfl | rfl <;> decide +kernel
theorem lnS_59 {e : Nat} (he : e = 139 ∨ e = 315) : ln0 (e + 59) = 60 := by rcases he with rfl | rfl <;> decide +kernel
theorem kdS_60 {e : Nat} (he : e = 139 ∨ e = 315) : kd0 (e + 60) = 13 := by rcases he with rfl | rfl <;> decide +kernel
theorem lnS_60 {e : Nat} (he : e = 139 ∨ e = 315) : ln0 (e + 60) = 60 := by rcases he with rfl | rfl <;> decide +kernel
theorem kdS_61 {e : Nat} (he : e = 139 ∨ e = 315) : kd0 (e + 61) = 13 := by rcases he with rfl | rfl <;> decide +kernel
theorem lnS_61 {e : Nat} (he : e = 139 ∨ e = 315) : ln0 (e + 61) = 60 := by rcases he with rfl | rfl <;> decide +kernel
theorem kdS_62 {e : Nat} (he : e = 139 ∨ e = 315) : kd0 (e + 62) = 13 := by rcases he with rfl | rfl <;> decide +kernel
theorem lnS_62 {e : Nat} (he : e = 139 ∨ e = 315) : ln0 (e + 62) = 60 := by rcases he with rfl | rfl <;> decide +kernel
theorem kdS_63 {e : Nat} (he : e = 139 ∨ e = 315) : kd0 (e + 63) = 13 := by rcases he with rfl | rfl <;> decide +kernel
theorem lnS_63 {e : Nat} (he : e = 139 ∨ e = 315) : ln0 (e + 63) = 60 := by rcases he with rfl | rfl <;> decide +kernel
theorem kdS_64 {e : Nat} (he : e = 139 ∨ e = 315) : kd0 (e + 64) = 13 := by rcases he with rfl | rfl <;> decide +kernel
theorem lnS_64 {e : Nat} (he : e = 139 ∨ e = 315) : ln0 (e + 64) = 60 := by rcases he with rfl | rfl <;> decide +kernel
theorem kdS_65 {e : Nat} (he : e = 139 ∨ e = 315) : kd0 (e + 65) = 13 := by rcases he with rfl | rfl <;> decide +kernel
theorem lnS_65 {e : Nat} (he : e = 139 ∨ e = 315) : ln0 (e + 65) = 60 := by rcases he with rfl | rfl <;> decide +kernel
theorem kdS_66 {e : Nat} (he : e = 139 ∨ e = 315) : kd0 (e + 66) = 13 := by rcases he with rfl | rfl <;> decide +kernel
theorem lnS_66 {e : Nat} (he : e = 139 ∨ e = 315) : ln0 (e + 66) = 60 := by rcases he with rfl | rfl <;> decide +kernel
theorem kdS_67 {e : Nat} (he : e = 139 ∨ e = 315) : kd0 (e + 67) = 13 := by rcases he with rfl | rfl <;> decide +kernel
theorem lnS_67 {e : Nat} (he : e = 139 ∨ e = 315) : ln0 (e + 67) = 60 := by rcases he with rfl | rfl <;> decide +kernel
theorem kdS_68 {e : Nat} (he : e = 139 ∨ e = 315) : kd0 (e + 68) = 13 := by rcases he with rfl | rfl <;> decide +kernel
theorem lnS_68 {e : Nat} (he : e = 139 ∨ e = 315) : ln0 (e + 68) = 60 := by rcases he with rfl | rfl <;> decide +kernel
theorem kdS_69 {e : Nat} (he : e = 139 ∨ e = 315) : kd0 (e + 69) = 13 := by rcases he with rfl | rfl <;> decide +kernel
theorem lnS_69 {e : Nat} (he : e = 139 ∨ e = 315) : ln0 (e + 69) = 60 := by rcases he with rfl | rfl <;> decide +kernel
theorem kdS_70 {e : Nat} (he : e = 139 ∨ e = 315) : kd0 (e + 70) = 13 := by rcases he with rfl | rfl <;> decide +kernel
theorem lnS_70 {e : Nat} (he : e = 139 ∨ e = 315) : ln0 (e + 70) = 60 := by rcases he with rfl | rfl <;> decide +kernel
theorem kdS_71 {e : Nat} (he : e = 139 ∨ e = 315) : kd0 (e + 71) = 13 := by rcases he with rfl | rfl <;> decide +kernel
theorem lnS_71 {e : Nat} (he : e = 139 ∨ e = 315) : ln0 (e + 71) = 60 := by rcases he with rfl | rfl <;> decide +kernel
theorem kdS_72 {e : Nat} (he : e = 139 ∨ e = 315) : kd0 (e + 72) = 13 := by rcases he with rfl | rfl <;> decide +kernel
theorem lnS_72 {e : Nat} (he : e = 139 ∨ e = 315) : ln0 (e + 72) = 60 := by rcases he with rfl | rfl <;> decide +kernel
theorem kdS_73 {e : Nat} (he : e = 139 ∨ e = 315) : kd0 (e + 73) = 13 := by rcases he with rfl | rfl <;> decide +kernel
theorem lnS_73 {e : Nat} (he : e = 139 ∨ e = 315) : ln0 (e + 73) = 60 := by rcases he with rfl | rfl <;> decide +kernel
theorem kdS_74 {e : Nat} (he : e = 139 ∨ e = 315) : kd0 (e + 74) = 13 := by rcases he with rfl | rfl <;> decide +kernel
theorem lnS_74 {e : Nat} (he : e = 139 ∨ e = 315) : ln0 (e + 74) = 60 := by rcases he with rfl | rfl <;> decide +kernel
theorem kdS_75 {e : Nat} (he : e = 139 ∨ e = 315) : kd0 (e + 75) = 13 := by rcases he with rfl | rfl <;> decide +kernel
theorem lnS_75 {e : Nat} (he : e = 139 ∨ e = 315) : ln0 (e + 75) = 60 := by rcases he with rfl | rfl <;> decide +kernel
theorem kdS_76 {e : Nat} (he : e = 139 ∨ e = 315) : kd0 (e + 76) = 13 := by rcases he with rfl | rfl <;> decide +kernel
theorem lnS_76 {e : Nat} (he : e = 139 ∨ e = 315) : ln0 (e + 76) = 60 := by rcases he with rfl | rfl <;> decide +kernel
theorem kdS_77 {e : Nat} (he : e = 139 ∨ e = 315) : kd0 (e + 77) = 13 := by rcases he with rfl | rfl <;> decide +kernel
theorem lnS_77 {e : Nat} (he : e = 139 ∨ e = 315) : ln0 (e + 77) = 60 := by rcases he with rfl | rfl <;> decide +kernel
theorem kdS_78 {e : Nat} (he : e = 139 ∨ e = 315) : kd0 (e + 78) = 13 := by rcases he with rfl | rfl <;> decide +kernel
theorem lnS_78 {e : Nat} (he : e = 139 ∨ e = 315) : ln0 (e + 78) = 60 := by rcases he with rfl | rfl <;> decide +kernel
theorem kdS_79 {e : Nat} (he : e = 139 ∨ e = 315) : kd0 (e + 79) = 13 := by rcases he with rfl | rfl <;> decide +kernel
theorem lnS_79 {e : Nat} (he : e = 139 ∨ e = 315) : ln0 (e + 79) = 60 := by rcases he with rfl | rfl <;> decide +kernel
theorem kdS_80 {e : Nat} (he : e = 139 ∨ e = 315) : kd0 (e + 80) = 13 := by rcases he with rfl | rfl <;> decide +kernel
theorem lnS_80 {e : Nat} (he : e = 139 ∨ e = 315) : ln0 (e + 80) = 60 := by rcases he with rfl | rfl <;> decide +kernel
theorem kdS_81 {e : Nat} (he : e = 139 ∨ e = 315) : kd0 (e + 81) = 13 := by rcases he with rfl | rfl <;> decide +kernel
theorem lnS_81 {e : Nat} (he : e = 139 ∨ e = 315) : ln0 (e + 81) = 60 := by rcases he with rfl | rfl <;> decide +kernel
theorem kdS_82 {e : Nat} (he : e = 139 ∨ e = 315) : kd0 (e + 82) = 13 := by rcases he with rfl | rfl <;> decide +kernel
theorem lnS_82 {e : Nat} (he : e = 139 ∨ e = 315) : ln0 (e + 82) = 60 := by rcases he with rfl | rfl <;> decide +kernel
theorem kdS_83 {e : Nat} (he : e = 139 ∨ e = 315) : kd0 (e + 83) = 13 := by rcases he with rfl | rfl <;> decide +kernel
theorem lnS_83 {e : Nat} (he : e = 139 ∨ e = 315) : ln0 (e + 83) = 60 := by rcases he with rfl | rfl <;> decide +kernel
theorem kdS_84 {e : Nat} (he : e = 139 ∨ e = 315) : kd0 (e + 84) = 13 := by rcases he with rfl | rfl <;> decide +kernel
theorem lnS_84 {e : Nat} (he : e = 139 ∨ e = 315) : ln0 (e + 84) = 60 := by rcases he with rfl | rfl <;> decide +kernel
theorem kdS_85 {e : Nat} (he : e = 139 ∨ e = 315) : kd0 (e + 85) = 13 := by rcases he with rfl | rfl <;> decide +kernel
theorem lnS_85 {e : Nat} (he : e = 139 ∨ e = 315) : ln0 (e + 85) = 60 := by rcases he with rfl | rfl <;> decide +kernel
theorem kdS_86 {e : Nat} (he : e = 139 ∨ e = 315) : kd0 (e + 86) = 13 := by rcases he with rfl | rfl <;> decide +kernel
theorem lnS_86 {e : Nat} (he : e = 139 ∨ e = 315) : ln0 (e + 86) = 60 := by rcases he with rfl | rfl <;> decide +kernel
theorem kdS_87 {e : Nat} (he : e = 139 ∨ e = 315) : kd0 (e + 87) = 13 := by rcases he with rfl | rfl <;> decide +kernel
theorem lnS_87 {e : Nat} (he : e = 139 ∨ e = 315) : ln0 (e + 87) = 60 := by rcases he with rfl | rfl <;> decide +kernel
theorem kdS_88 {e : Nat} (he : e = 139 ∨ e = 315) : kd0 (e + 88) = 13 := by rcases he with rfl | rfl <;> decide +kernel
theorem lnS_88 {e : Nat} (he : e = 139 ∨ e = 315) : ln0 (e + 88) = 60 := by rcases he with rfl | rfl <;> decide +kernel
theorem kdS_89 {e : Nat} (he : e = 139 ∨ e = 315) : kd0 (e + 89) = 13 := by rcases he with rfl | rfl <;> decide +kernel
theorem lnS_89 {e : Nat} (he : e = 139 ∨ e = 315) : ln0 (e + 89) = 60 := by rcases he with rfl | rfl <;> decide +kernel
theorem kdS_90 {e : Nat} (he : e = 139 ∨ e = 315) : kd0 (e + 90) = 13 := by rcases he with rfl | rfl <;> decide +kernel
theorem lnS_90 {e : Nat} (he : e = 139 ∨ e = 315) : ln0 (e + 90) = 60 := by rcases he with rfl | rfl <;> decide +kernel
theorem kdS_91 {e : Nat} (he : e = 139 ∨ e = 315) : kd0 (e + 91) = 13 := by rcases he with rfl | rfl <;> decide +kernel
theorem lnS_91 {e : Nat} (he : e = 139 ∨ e = 315) : ln0 (e + 91) = 60 := by rcases he with rfl | rfl <;> decide +kernel
theorem kdS_92 {e : Nat} (he : e = 139 ∨ e = 315) : kd0 (e + 92) = 13 := by rcases he with rfl | rfl <;> decide +kernel
theorem lnS_92 {e : Nat} (he : e = 139 ∨ e = 315) : ln0 (e + 92) = 60 := by rcases he with rfl | rfl <;> decide +kernel
theorem kdS_93 {e : Nat} (he : e = 139 ∨ e = 315) : kd0 (e + 93) = 13 := by rcases he with rfl | rfl <;> decide +kernel
theorem lnS_93 {e : Nat} (he : e = 139 ∨ e = 315) : ln0 (e + 93) = 60 := by rcases he with rfl | rfl <;> decide +kernel
theorem kdS_94 {e : Nat} (he : e = 139 ∨ e = 315) : kd0 (e + 94) = 13 := by rcases he with rfl | rfl <;> decide +kernel
theorem lnS_94 {e : Nat} (he : e = 139 ∨ e = 315) : ln0 (e + 94) = 60 := by rcases he with rfl | rfl <;> decide +kernel
theorem kdS_95 {e : Nat} (he : e = 139 ∨ e = 315) : kd0 (e + 95) = 13 := by rcases he with rfl | rfl <;> decide +kernel
theorem lnS_95 {e : Nat} (he : e = 139 ∨ e = 315) : ln0 (e + 95) = 60 := by rcases he with rfl | rfl <;> decide +kernel
theorem kdS_96 {e : Nat} (he : e = 139 ∨ e = 315) : kd0 (e + 96) = 13 := by rcases he with rfl | rfl <;> decide +kernel
theorem lnS_96 {e : Nat} (he : e = 139 ∨ e = 315) : ln0 (e + 96) = 60 := by rcases he with rfl | rfl <;> decide +kernel
theorem kdS_97 {e : Nat} (he : e = 139 ∨ e = 315) : kd0 (e + 97) = 13 := by rcases he with rfl | rfl <;> decide +kernel
theorem lnS_97 {e : Nat} (he : e = 139 ∨ e = 315) : ln0 (e + 97) = 60 := by rcases he with rfl | rfl <;> decide +kernel
theorem kdS_98 {e : Nat} (he : e = 139 ∨ e = 315) : kd0 (e + 98) = 13 := by rcases he with rfl | rfl <;> decide +kernel
theorem lnS_98 {e : Nat} (he : e = 139 ∨ e = 315) : ln0 (e + 98) = 60 := by rcases he with rfl | rfl <;> decide +kernel
theorem kdS_99 {e : Nat} (he : e = 139 ∨ e = 315) : kd0 (e + 99) = 13 := by rcases he with rfl | rfl <;> decide +kernel
theorem lnS_99 {e : Nat} (he : e = 139 ∨ e = 315) : ln0 (e + 99) = 60 := by rcases he with rfl | rfl <;> decide +kernel
theorem kdS_100 {e : Nat} (he : e = 139 ∨ e = 315) : kd0 (e + 100) = 13 := by rcases he with rfl | rfl <;> decide +kernel
theorem lnS_100 {e : Nat} (he : e = 139 ∨ e = 315) : ln0 (e + 100) = 60 := by rcases he with rfl | rfl <;> decide +kernel
theorem kdS_101 {e : Nat} (he : e = 139 ∨ e = 315) : kd0 (e + 101) = 13 := by rcases he with rfl | rfl <;> decide +kernel
theorem lnS_101 {e : Nat} (he : e = 139 ∨ e = 315) : ln0 (e + 101) = 60 := by rcases he with rfl | rfl <;> decide +kernel
theorem kdS_102 {e : Nat} (he : e = 139 ∨ e = 315) : kd0 (e + 102) = 13 := by rcases he with rfl | rfl <;> decide +kernel
theorem lnS_102 {e : Nat} (he : e = 139 ∨ e = 315) : ln0 (e + 102) = 60 := by rcases he with rfl | rfl <;> decide +kernel
theorem kdS_103 {e : Nat} (he : e = 139 ∨ e = 315) : kd0 (e + 103) = 13 := by rcases he with rfl | rfl <;> decide +kernel
theorem lnS_103 {e : Nat} (he : e = 139 ∨ e = 315) : ln0 (e + 103) = 60 := by rcases he with rfl | rfl <;> decide +kernel
theorem kdS_104 {e : Nat} (he : e = 139 ∨ e = 315) : kd0 (e + 104) = 13 := by rcases he with rfl | rfl <;> decide +kernel
theorem lnS_104 {e : Nat} (he : e = 139 ∨ e = 315) : ln0 (e + 104) = 60 := by rcases he with rfl | rfl <;> decide +kernel
theorem kdS_105 {e : Nat} (he : e = 139 ∨ e = 315) : kd0 (e + 105) = 13 := by rcases he with rfl | rfl <;> decide +kernel
theorem lnS_105 {e : Nat} (he : e = 139 ∨ e = 315) : ln0 (e + 105) = 60 := by rcases he with rfl | rfl <;> decide +kernel
theorem kdS_106 {e : Nat} (he : e = 139 ∨ e = 315) : kd0 (e + 106) = 13 := by rcases he with rfl | rfl <;> decide +kernel
theorem lnS_106 {e : Nat} (he : e = 139 ∨ e = 315) : ln0 (e + 106) = 60 := by rcases he with rfl | rfl <;> decide +kernel
theorem kdS_107 {e : Nat} (he : e = 139 ∨ e = 315) : kd0 (e + 107) = 13 := by rcases he with rfl | rfl <;> decide +kernel
theorem lnS_107 {e : Nat} (he : e = 139 ∨ e = 315) : ln0 (e + 107) = 60 := by rcases he with rfl | rfl <;> decide +kernel
theorem kdS_108 {e : Nat} (he : e = 139 ∨ e = 315) : kd0 (e + 108) = 13 := by rcases he with rfl | rfl <;> decide +kernel
theorem lnS_108 {e : Nat} (he : e = 139 ∨ e = 315) : ln0 (e + 108) = 60 := by rcases he with rfl | rfl <;> decide +kernel
theorem kdS_109 {e : Nat} (he : e = 139 ∨ e = 315) : kd0 (e + 109) = 13 := by rcases he with rfl | rfl <;> decide +kernel
theorem lnS_109 {e : Nat} (he : e = 139 ∨ e = 315) : ln0 (e + 109) = 60 := by rcases he with rfl | rfl <;> decide +kernel
theorem kdS_110 {e : Nat} (he : e = 139 ∨ e = 315) : kd0 (e + 110) = 13 := by rcases he with rfl | rfl <;> decide +kernel
theorem lnS_110 {e : Nat} (he : e = 139 ∨ e = 315) : ln0 (e + 110) = 60 := by rcases he with rfl | rfl <;> decide +kernel
theorem kdS_111 {e : Nat} (he : e = 139 ∨ e = 315) : kd0 (e + 111) = 13 := by rcases he with rfl | rfl <;> decide +kernel
theorem lnS_111 {e : Nat} (he : e = 139 ∨ e = 315) : ln0 (e + 111) = 60 := by rcases he with rfl | rfl <;> decide +kernel
theorem kdS_112 {e : Nat} (he : e = 139 ∨ e = 315) : kd0 (e + 112) = 13 := by rcases he with rfl | rfl <;> decide +kernel
theorem lnS_112 {e : Nat} (he : e = 139 ∨ e = 315) : ln0 (e + 112) = 60 := by rcases he with rfl | rfl <;> decide +kernel
theorem kdS_113 {e : Nat} (he : e = 139 ∨ e = 315) : kd0 (e + 113) = 13 := by rcases he with rfl | rfl <;> decide +kernel
theorem lnS_113 {e : Nat} (he : e = 139 ∨ e = 315) : ln0 (e + 113) = 60 := by rcases he with rfl | rfl <;> decide +kernel
theorem kdS_114 {e : Nat} (he : e = 139 ∨ e = 315) : kd0 (e + 114) = 13 := by rcases he with rfl | rfl <;> decide +kernel
theorem lnS_114 {e : Nat} (he : e = 139 ∨ e = 315) : ln0 (e + 114) = 60 := by rcases he with rfl | rfl <;> decide +kernel
theorem kdS_115 {e : Nat} (he : e = 139 ∨ e = 315) : kd0 (e + 115) = 13 := by rcases he with rfl | rfl <;> decide +kernel
theorem lnS_115 {e : Nat} (he : e = 139 ∨ e = 315) : ln0 (e + 115) = 60 := by rcases he with rfl | rfl <;> decide +kernel
theorem kdS_116 {e : Nat} (he : e = 139 ∨ e = 315) : kd0 (e + 116) = 13 := by rcases he with rfl | rfl <;> decide +kernel
theorem lnS_116 {e : Nat} (he : e = 139 ∨ e = 315) : ln0 (e + 116) = 60 := by rcases he with rfl | rfl <;> decide +kernel
theorem kdS_117 {e : Nat} (he : e = 139 ∨ e = 315) : kd0 (e + 117) = 13 := by rcases he with rfl | rfl <;> decide +kernel
theorem lnS_117 {e : Nat} (he : e = 139 ∨ e = 315) : ln0 (e + 117) = 60 := by rcases he with rfl | rfl <;> decide +kernel
theorem kdS_118 {e : Nat} (he : e = 139 ∨ e = 315) : kd0 (e + 118) = 13 := by rcases he with rfl | rfl <;> decide +kernel
theorem lnS_118 {e : Nat} (he : e = 139 ∨ e = 315) : ln0 (e + 118) = 60 := by rcases he with rfl | rfl <;> decide +kernel
theorem kdS_119 {e : Nat} (he : e = 139 ∨ e = 315) : kd0 (e + 119) = 13 := by rcases he with rfl | rfl <;> decide +kernel
theorem lnS_119 {e : Nat} (he : e = 139 ∨ e = 315) : ln0 (e + 119) = 60 := by rcases he with rfl | rfl <;> decide +kernel
theorem kdS_120 {e : Nat} (he : e = 139 ∨ e = 315) : kd0 (e + 120) = 13 := by rcases he with rfl | rfl <;> decide +kernel
theorem lnS_120 {e : Nat} (he : e = 139 ∨ e = 315) : ln0 (e + 120) = 60 := by rcases he with rfl | rfl <;> decide +kernel
theorem kdS_121 {e : Nat} (he : e = 139 ∨ e = 315) : kd0 (e + 121) = 13 := by rcases he with rfl | rfl <;> decide +kernel
theorem lnS_121 {e : Nat} (he : e = 139 ∨ e = 315) : ln0 (e + 121) = 60 := by rcases he with rfl | rfl <;> decide +kernel
theorem kdS_122 {e : Nat} (he : e = 139 ∨ e = 315) : kd0 (e + 122) = 13 := by rcases he with rfl | rfl <;> decide +kernel
theorem lnS_122 {e : Nat} (he : e = 139 ∨ e = 315) : ln0 (e + 122) = 60 := by rcases he with rfl | rfl <;> decide +kernel
theorem kdS_123 {e : Nat} (he : e = 139 ∨ e = 315) : kd0 (e + 123) = 13 := by rcases he with rfl | rfl <;> decide +kernel
theorem lnS_123 {e : Nat} (he : e = 139 ∨ e = 315) : ln0 (e + 123) = 60 := by rcases he with rfl | rfl <;> decide +kernel
theorem kdS_124 {e : Nat} (he : e = 139 ∨ e = 315) : kd0 (e + 124) = 13 := by rcases he with rfl | rfl <;> decide +kernel
theorem lnS_124 {e : Nat} (he : e = 139 ∨ e = 315) : ln0 (e + 124) = 60 := by rcases he with rfl | rfl <;> decide +kernel
theorem kdS_125 {e : Nat} (he : e = 139 ∨ e = 315) : kd0 (e + 125) = 13 := by rcases he with rfl | rfl <;> decide +kernel
theorem lnS_125 {e : Nat} (he : e = 139 ∨ e = 315) : ln0 (e + 125) = 60 := by rcases he with rfl | rfl <;> decide +kernel
theorem kdS_126 {e : Nat} (he : e = 139 ∨ e = 315) : kd0 (e + 126) = 13 := by rcases he with rfl | rfl <;> decide +kernel
theorem lnS_126 {e : Nat} (he : e = 139 ∨ e = 315) : ln0 (e + 126) = 60 := by rcases he with rfl | rfl <;> decide +kernel
theorem kdS_127 {e : Nat} (he : e = 139 ∨ e = 315) : kd0 (e + 127) = 13 := by rcases he with rfl | rfl <;> decide +kernel
theorem lnS_127 {e : Nat} (he : e = 139 ∨ e = 315) : ln0 (e + 127) = 60 := by rcases he with rfl | rfl <;> decide +kernel
theorem kdS_128 {e : Nat} (he : e = 139 ∨ e = 315) : kd0 (e + 128) = 13 := by rcases he with rfl | rfl <;> decide +kernel
theorem lnS_128 {e : Nat} (he : e = 139 ∨ e = 315) : ln0 (e + 128) = 60 := by rcases he with rfl | rfl <;> decide +kernel
theorem kdS_129 {e : Nat} (he : e = 139 ∨ e = 315) : kd0 (e + 129) = 13 := by rcases he with rfl | rfl <;> decide +kernel
theorem lnS_129 {e : Nat} (he : e = 139 ∨ e = 315) : ln0 (e + 129) = 60 := by rcases he with rfl | rfl <;> decide +kernel
theorem kdS_130 {e : Nat} (he : e = 139 ∨ e = 315) : kd0 (e + 130) = 13 := by rcases he with rfl | rfl <;> decide +kernel
theorem lnS_130 {e : Nat} (he : e = 139 ∨ e = 315) : ln0 (e + 130) = 60 := by rcases he with rfl | rfl <;> decide +kernel
theorem kdS_131 {e : Nat} (he : e = 139 ∨ e = 315) : kd0 (e + 131) = 13 := by rcases he with rfl | rfl <;> decide +kernel
theorem lnS_131 {e : Nat} (he : e = 139 ∨ e = 315) : ln0 (e + 131) = 60 := by rcases he with rfl | rfl <;> decide +kernel
theorem kdS_132 {e : Nat} (he : e = 139 ∨ e = 315) : kd0 (e + 132) = 13 := by rcases he with rfl | rfl <;> decide +kernel
theorem lnS_132 {e : Nat} (he : e = 139 ∨ e = 315) : ln0 (e + 132) = 60 := by rcases he with rfl | rfl <;> decide +kernel
theorem kdS_133 {e : Nat} (he : e = 139 ∨ e = 315) : kd0 (e + 133) = 13 := by rcases he with rfl | rfl <;> decide +kernel
theorem lnS_133 {e : Nat} (he : e = 139 ∨ e = 315) : ln0 (e + 133) = 60 := by rcases he with rfl | rfl <;> decide +kernel
theorem kdS_134 {e : Nat} (he : e = 139 ∨ e = 315) : kd0 (e + 134) = 13 := by rcases he with rfl | rfl <;> decide +kernel
theorem lnS_134 {e : Nat} (he : e = 139 ∨ e = 315) : ln0 (e + 134) = 60 := by rcases he with rfl | rfl <;> decide +kernel
theorem kdS_135 {e : Nat} (he : e = 139 ∨ e = 315) : kd0 (e + 135) = 13 := by rcases he with rfl | rfl <;> decide +kernel
theorem lnS_135 {e : Nat} (he : e = 139 ∨ e = 315) : ln0 (e + 135) = 60 := by rcases he with rfl | rfl <;> decide +kernel
theorem kdS_136 {e : Nat} (he : e = 139 ∨ e = 315) : kd0 (e + 136) = 13 := by rcases he with rfl | rfl <;> decide +kernel
theorem lnS_136 {e : Nat} (he : e = 139 ∨ e = 315) : ln0 (e + 136) = 60 := by rcases he with rfl | rfl <;> decide +kernel
theorem kdS_137 {e : Nat} (he : e = 139 ∨ e = 315) : kd0 (e + 137) = 13 := by rcases he with rfl | rfl <;> decide +kernel
theorem lnS_137 {e : Nat} (he : e = 139 ∨ e = 315) : ln0 (e + 137) = 60 := by rcases he with rfl | rfl <;> decide +kernel
theorem kdS_138 {e : Nat} (he : e = 139 ∨ e = 315) : kd0 (e + 138) = 13 := by rcases he with rfl | rfl <;> decide +kernel
theorem lnS_138 {e : Nat} (he : e = 139 ∨ e = 315) : ln0 (e + 138) = 60 := by rcases he with rfl | rfl <;> decide +kernel
theorem kdS_139 {e : Nat} (he : e = 139 ∨ e = 315) : kd0 (e + 139) = 13 := by rcases he with rfl | rfl <;> decide +kernel
theorem lnS_139 {e : Nat} (he : e = 139 ∨ e = 315) : ln0 (e + 139) = 60 := by rcases he with rfl | rfl <;> decide +kernel
theorem kdS_140 {e : Nat} (he : e = 139 ∨ e = 315) : kd0 (e + 140) = 13 := by rcases he with rfl | rfl <;> decide +kernel
theorem lnS_140 {e : Nat} (he : e = 139 ∨ e = 315) : ln0 (e + 140) = 100 := by rcases he with rfl | rfl <;> decide +kernel
theorem kdS_141 {e : Nat} (he : e = 139 ∨ e = 315) : kd0 (e + 141) = 13 := by rcases he with rfl | rfl <;> decide +kernel
theorem lnS_141 {e : Nat} (he : e = 139 ∨ e = 315) : ln0 (e + 141) = 100 := by rcases he with rfl | rfl <;> decide +kernel
theorem kdS_142 {e : Nat} (he : e = 139 ∨ e = 315) : kd0 (e + 142) = 13 := by rcases he with rfl | rfl <;> decide +kernel
theorem lnS_142 {e : Nat} (he : e = 139 ∨ e = 315) : ln0 (e + 142) = 152 := by rcases he with rfl | rfl <;> decide +kernel
theorem kdS_143 {e : Nat} (he : e = 139 ∨ e = 315) : kd0 (e + 143) = 13 := by rcases he with rfl | rfl <;> decide +kernel
theorem lnS_143 {e : Nat} (he : e = 139 ∨ e = 315) : ln0 (e + 143) = 32 := by rcases he with rfl | rfl <;> decide +kernel
theorem kdS_144 {e : Nat} (he : e = 139 ∨ e = 315) : kd0 (e + 144) = 5 := by rcases he with rfl | rfl <;> decide +kernel
theorem lnS_144 {e : Nat} (he : e = 139 ∨ e = 315) : ln0 (e + 144) = 0 := by rcases he with rfl | rfl <;> decide +kernel
theorem kdS_145 {e : Nat} (he : e = 139 ∨ e = 315) : kd0 (e + 145) = 16 := by rcases he with rfl | rfl <;> decide +kernel
theorem lnS_145 {e : Nat} (he : e = 139 ∨ e = 315) : ln0 (e + 145) = 6 := by rcases he with rfl | rfl <;> decide +kernel
theorem kdS_146 {e : Nat} (he : e = 139 ∨ e = 315) : kd0 (e + 146) = 13 := by rcases he with rfl | rfl <;> decide +kernel
theorem lnS_146 {e : Nat} (he : e = 139 ∨ e = 315) : ln0 (e + 146) = 32 := by rcases he with rfl | rfl <;> decide +kernel
theorem kdS_147 {e : Nat} (he : e = 139 ∨ e = 315) : kd0 (e + 147) = 13 := by rcases he with rfl | rfl <;> decide +kernel
theorem lnS_147 {e : Nat} (he : e = 139 ∨ e = 315) : ln0 (e + 147) = 32 := by rcases he with rfl | rfl <;> decide +kernel
theorem kdS_148 {e : Nat} (he : e = 139 ∨ e = 315) : kd0 (e + 148) = 13 := by rcases he with rfl | rfl <;> decide +kernel
theorem lnS_148 {e : Nat} (he : e = 139 ∨ e = 315) : ln0 (e + 148) = 32 := by rcases he with rfl | rfl <;> decide +kernel
theorem kdS_149 {e : Nat} (he : e = 139 ∨ e = 315) : kd0 (e + 149) = 13 := by rcases he with rfl | rfl <;> decide +kernel
theorem lnS_149 {e : Nat} (he : e = 139 ∨ e = 315) : ln0 (e + 149) = 32 := by rcases he with rfl | rfl <;> decide +kernel
theorem kdS_150 {e : Nat} (he : e = 139 ∨ e = 315) : kd0 (e + 150) = 13 := by rcases he with rfl | rfl <;> decide +kernel
theorem lnS_150 {e : Nat} (he : e = 139 ∨ e = 315) : ln0 (e + 150) = 32 := by rcases he with rfl | rfl <;> decide +kernel
theorem kdS_151 {e : Nat} (he : e = 139 ∨ e = 315) : kd0 (e + 151) = 13 := by rcases he with rfl | rfl <;> decide +kernel
theorem lnS_151 {e : Nat} (he : e = 139 ∨ e = 315) : ln0 (e + 151) = 32 := by rcases he with rfl | rfl <;> decide +kernel
theorem kdS_152 {e : Nat} (he : e = 139 ∨ e = 315) : kd0 (e + 152) = 16 := by rcases he with rfl | rfl <;> decide +kernel
theorem lnS_152 {e : Nat} (he : e = 139 ∨ e = 315) : ln0 (e + 152) = 4 := by rcases he with rfl | rfl <;> decide +kernel
theorem kdS_153 {e : Nat} (he : e = 139 ∨ e = 315) : kd0 (e + 153) = 13 := by rcases he with rfl | rfl <;> decide +kernel
theorem lnS_153 {e : Nat} (he : e = 139 ∨ e = 315) : ln0 (e + 153) = 32 := by rcases he with rfl | rfl <;> decide +kernel
theorem kdS_154 {e : Nat} (he : e = 139 ∨ e = 315) : kd0 (e + 154) = 13 := by rcases he with rfl | rfl <;> decide +kernel
theorem lnS_154 {e : Nat} (he : e = 139 ∨ e = 315) : ln0 (e + 154) = 32 := by rcases he with rfl | rfl <;> decide +kernel
theorem kdS_155 {e : Nat} (he : e = 139 ∨ e = 315) : kd0 (e + 155) = 13 := by rcases he with rfl | rfl <;> decide +kernel
theorem lnS_155 {e : Nat} (he : e = 139 ∨ e = 315) : ln0 (e + 155) = 32 := by rcases he with rfl | rfl <;> decide +kernel
theorem kdS_156 {e : Nat} (he : e = 139 ∨ e = 315) : kd0 (e + 156) = 13 := by rcases he with rfl | rfl <;> decide +kernel
theorem lnS_156 {e : Nat} (he : e = 139 ∨ e = 315) : ln0 (e + 156) = 32 := by rcases he with rfl | rfl <;> decide +kernel
theorem kdS_157 {e : Nat} (he : e = 139 ∨ e = 315) : kd0 (e + 157) = 16 := by rcases he with rfl | rfl <;> decide +kernel
theorem lnS_157 {e : Nat} (he : e = 139 ∨ e = 315) : ln0 (e + 157) = 4 := by rcases he with rfl | rfl <;> decide +kernel
theorem kdS_158 {e : Nat} (he : e = 139 ∨ e = 315) : kd0 (e + 158) = 13 := by rcases he with rfl | rfl <;> decide +kernel
theorem lnS_158 {e : Nat} (he : e = 139 ∨ e = 315) : ln0 (e + 158) = 32 := by rcases he with rfl | rfl <;> decide +kernel
theorem kdS_159 {e : Nat} (he : e = 139 ∨ e = 315) : kd0 (e + 159) = 13 := by rcases he with rfl | rfl <;> decide +kernel
theorem lnS_159 {e : Nat} (he : e = 139 ∨ e = 315) : ln0 (e + 159) = 32 := by rcases he with rfl | rfl <;> decide +kernel
theorem kdS_160 {e : Nat} (he : e = 139 ∨ e = 315) : kd0 (e + 160) = 13 := by rcases he with rfl | rfl <;> decide +kernel
theorem lnS_160 {e : Nat} (he : e = 139 ∨ e = 315) : ln0 (e + 160) = 32 := by rcases he with rfl | rfl <;> decide +kernel
theorem kdS_161 {e : Nat} (he : e = 139 ∨ e = 315) : kd0 (e + 161) = 13 := by rcases he with rfl | rfl <;> decide +kernel
theorem lnS_161 {e : Nat} (he : e = 139 ∨ e = 315) : ln0 (e + 161) = 32 := by rcases he with rfl | rfl <;> decide +kernel
theorem kdS_162 {e : Nat} (he : e = 139 ∨ e = 315) : kd0 (e + 162) = 13 := by rcases he with rfl | rfl <;> decide +kernel
theorem lnS_162 {e : Nat} (he : e = 139 ∨ e = 315) : ln0 (e + 162) = 293 := by rcases he with rfl | rfl <;> decide +kernel
theorem kdS_163 {e : Nat} (he : e = 139 ∨ e = 315) : kd0 (e + 163) = 13 := by rcases he with rfl | rfl <;> decide +kernel
theorem lnS_163 {e : Nat} (he : e = 139 ∨ e = 315) : ln0 (e + 163) = 32 := by rcases he with rfl | rfl <;> decide +kernel
theorem kdS_164 {e : Nat} (he : e = 139 ∨ e = 315) : kd0 (e + 164) = 13 := by rcases he with rfl | rfl <;> decide +kernel
theorem lnS_164 {e : Nat} (he : e = 139 ∨ e = 315) : ln0 (e + 164) = 32 := by rcases he with rfl | rfl <;> decide +kernel
theorem kdS_165 {e : Nat} (he : e = 139 ∨ e = 315) : kd0 (e + 165) = 13 := by rcases he with rfl | rfl <;> decide +kernel
theorem lnS_165 {e : Nat} (he : e = 139 ∨ e = 315) : ln0 (e + 165) = 32 := by rcases he with rfl | rfl <;> decide +kernel
theorem kdS_166 {e : Nat} (he : e = 139 ∨ e = 315) : kd0 (e + 166) = 13 := by rcases he with rfl | rfl <;> decide +kernel
theorem lnS_166 {e : Nat} (he : e = 139 ∨ e = 315) : ln0 (e + 166) = 32 := by rcases he with rfl | rfl <;> decide +kernel
theorem kdS_167 {e : Nat} (he : e = 139 ∨ e = 315) : kd0 (e + 167) = 13 := by rcases he with rfl | rfl <;> decide +kernel
theorem lnS_167 {e : Nat} (he : e = 139 ∨ e = 315) : ln0 (e + 167) = 32 := by rcases he with rfl | rfl <;> decide +kernel
theorem kdS_168 {e : Nat} (he : e = 139 ∨ e = 315) : kd0 (e + 168) = 6 := by rcases he with rfl | rfl <;> decide +kernel
theorem lnS_168 {e : Nat} (he : e = 139 ∨ e = 315) : ln0 (e + 168) = 0 := by rcases he with rfl | rfl <;> decide +kernel
theorem kdS_169 {e : Nat} (he : e = 139 ∨ e = 315) : kd0 (e + 169) = 13 := by rcases he with rfl | rfl <;> decide +kernel
theorem lnS_169 {e : Nat} (he : e = 139 ∨ e = 315) : ln0 (e + 169) = 500 := by rcases he with rfl | rfl <;> decide +kernel
theorem kdS_170 {e : Nat} (he : e = 139 ∨ e = 315) : kd0 (e + 170) = 13 := by rcases he with rfl | rfl <;> decide +kernel
theorem lnS_170 {e : Nat} (he : e = 139 ∨ e = 315) : ln0 (e + 170) = 500 := by rcases he with rfl | rfl <;> decide +kernel
theorem kdS_171 {e : Nat} (he : e = 139 ∨ e = 315) : kd0 (e + 171) = 13 := by rcases he with rfl | rfl <;> decide +kernel
theorem lnS_171 {e : Nat} (he : e = 139 ∨ e = 315) : ln0 (e + 171) = 4 := by rcases he with rfl | rfl <;> decide +kernel
theorem kdS_172 {e : Nat} (he : e = 139 ∨ e = 315) : kd0 (e + 172) = 10 := by rcases he with rfl | rfl <;> decide +kernel
theorem lnS_172 {e : Nat} (he : e = 139 ∨ e = 315) : ln0 (e + 172) = 0 := by rcases he with rfl | rfl <;> decide +kernel
theorem kdS_173 {e : Nat} (he : e = 139 ∨ e = 315) : kd0 (e + 173) = 10 := by rcases he with rfl | rfl <;> decide +kernel
theorem lnS_173 {e : Nat} (he : e = 139 ∨ e = 315) : ln0 (e + 173) = 0 := by rcases he with rfl | rfl <;> decide +kernel
theorem kdS_174 {e : Nat} (he : e = 139 ∨ e = 315) : kd0 (e + 174) = 10 := by rcases he with rfl | rfl <;> decide +kernel
theorem lnS_174 {e : Nat} (he : e = 139 ∨ e = 315) : ln0 (e + 174) = 0 := by rcases he with rfl | rfl <;> decide +kernel
theorem kdS_175 {e : Nat} (he : e = 139 ∨ e = 315) : kd0 (e + 175) = 10 := by rcases he with rfl | rfl <;> decide +kernel
theorem lnS_175 {e : Nat} (he : e = 139 ∨ e = 315) : ln0 (e + 175) = 0 := by rcases he with rfl | rfl <;> decide +kernel
theorem r_0_0 {R : Nat → Nat → Option Nat} (h : xRk R) : R 0 0 = some 1 := h (0, 0, 1) (List.mem_of_getElem? (i := 0) (by decide +kernel))
theorem r_0_1 {R : Nat → Nat → Option Nat} (h : xRk R) : R 0 1 = some 2 := h (0, 1, 2) (List.mem_of_getElem? (i := 1) (by decide +kernel))
theorem r_0_2 {R : Nat → Nat → Option Nat} (h : xRk R) : R 0 2 = some 3 := h (0, 2, 3) (List.mem_of_getElem? (i := 2) (by decide +kernel))
theorem r_0_3 {R : Nat → Nat → Option Nat} (h : xRk R) : R 0 3 = some 5 := h (0, 3, 5) (List.mem_of_getElem? (i := 3) (by decide +kernel))
theorem r_1_0 {R : Nat → Nat → Option Nat} (h : xRk R) : R 1 0 = some 11 := h (1, 0, 11) (List.mem_of_getElem? (i := 4) (by decide +kernel))
theorem r_1_1 {R : Nat → Nat → Option Nat} (h : xRk R) : R 1 1 = some 75 := h (1, 1, 75) (List.mem_of_getElem? (i := 5) (by decide +kernel))
theorem r_2_0 {R : Nat → Nat → Option Nat} (h : xRk R) : R 2 0 = some 139 := h (2, 0, 139) (List.mem_of_getElem? (i := 6) (by decide +kernel))
theorem r_2_1 {R : Nat → Nat → Option Nat} (h : xRk R) : R 2 1 = some 315 := h (2, 1, 315) (List.mem_of_getElem? (i := 7) (by decide +kernel))
theorem r_3_0 {R : Nat → Nat → Option Nat} (h : xRk R) : R 3 0 = some 4 := h (3, 0, 4) (List.mem_of_getElem? (i := 8) (by decide +kernel))
theorem r_6_0 {R : Nat → Nat → Option Nat} (h : xRk R) : R 6 0 = some 7 := h (6, 0, 7) (List.mem_of_getElem? (i := 9) (by decide +kernel))
theorem r_6_1 {R : Nat → Nat → Option Nat} (h : xRk R) : R 6 1 = some 8 := h (6, 1, 8) (List.mem_of_getElem? (i := 10) (by decide +kernel))
theorem r_6_2 {R : Nat → Nat → Option Nat} (h : xRk R) : R 6 2 = some 9 := h (6, 2, 9) (List.mem_of_getElem? (i := 11) (by decide +kernel))
theorem r_6_3 {R : Nat → Nat → Option Nat} (h : xRk R) : R 6 3 = some 10 := h (6, 3, 10) (List.mem_of_getElem? (i := 12) (by decide +kernel))
theorem r_11_2 {R : Nat → Nat → Option Nat} (h : xRk R) : R 11 2 = some 12 := h (11, 2, 12) (List.mem_of_getElem? (i := 13) (by decide +kernel))
theorem r_11_3 {R : Nat → Nat → Option Nat} (h : xRk R) : R 11 3 = some 73 := h (11, 3, 73) (List.mem_of_getElem? (i := 14) (by decide +kernel))
theorem r_11_4 {R : Nat → Nat → Option Nat} (h : xRk R) : R 11 4 = some 74 := h (11, 4, 74) (List.mem_of_getElem? (i := 15) (by decide +kernel))
theorem r_75_2 {R : Nat → Nat → Option Nat} (h : xRk R) : R 75 2 = some 76 := h (75, 2, 76) (List.mem_of_getElem? (i := 76) (by decide +kernel))
theorem r_75_3 {R : Nat → Nat → Option Nat} (h : xRk R) : R 75 3 = some 137 := h (75, 3, 137) (List.mem_of_getElem? (i := 77) (by decide +kernel))
theorem r_75_4 {R : Nat → Nat → Option Nat} (h : xRk R) : R 75 4 = some 138 := h (75, 4, 138) (List.mem_of_getElem? (i := 78) (by decide +kernel))
theorem rS_0_1 {R : Nat → Nat → Option Nat} (h : xRk R) {e : Nat} (he : e = 139 ∨ e = 315) : R (e + 0) 1 = some (e + 1) := by
  rcases he with rfl | rfl
  · exact h (139, 1, 140) (List.mem_of_getElem? (i := 139) (by decide +kernel))
  · exact h (315, 1, 316) (List.mem_of_getElem? (i := 317) (by decide +kernel))
theorem rS_0_2 {R : Nat → Nat → Option Nat} (h : xRk R) {e : Nat} (he : e = 139 ∨ e = 315) : R (e + 0) 2 = some (e + 144) := by
  rcases he with rfl | rfl
  · exact h (139, 2, 283) (List.mem_of_getElem? (i := 140) (by decide +kernel))
  · exact h (315, 2, 459) (List.mem_of_getElem? (i := 318) (by decide +kernel))
theorem rS_0_3 {R : Nat → Nat → Option Nat} (h : xRk R) {e : Nat} (he : e = 139 ∨ e = 315) : R (e + 0) 3 = some (e + 168) := by
  rcases he with rfl | rfl
  · exact h (139, 3, 307) (List.mem_of_getElem? (i := 141) (by decide +kernel))
  · exact h (315, 3, 483) (List.mem_of_getElem? (i := 319) (by decide +kernel))
theorem rS_0_4 {R : Nat → Nat → Option Nat} (h : xRk R) {e : Nat} (he : e = 139 ∨ e = 315) : R (e + 0) 4 = some (e + 8) := by
  rcases he with rfl | rfl
  · exact h (139, 4, 147) (List.mem_of_getElem? (i := 142) (by decide +kernel))
  · exact h (315, 4, 323) (List.mem_of_getElem? (i := 320) (by decide +kernel))
theorem rS_0_5 {R : Nat → Nat → Option Nat} (h : xRk R) {e : Nat} (he : e = 139 ∨ e = 315) : R (e + 0) 5 = some (e + 17) := by
  rcases he with rfl | rfl
  · exact h (139, 5, 156) (List.mem_of_getElem? (i := 143) (by decide +kernel))
  · exact h (315, 5, 332) (List.mem_of_getElem? (i := 321) (by decide +kernel))
theorem rS_0_6 {R : Nat → Nat → Option Nat} (h : xRk R) {e : Nat} (he : e = 139 ∨ e = 315) : R (e + 0) 6 = some (e + 33) := by
  rcases he with rfl | rfl
  · exact h (139, 6, 172) (List.mem_of_getElem? (i := 144) (by decide +kernel))
  · exact h (315, 6, 348) (List.mem_of_getElem? (i := 322) (by decide +kernel))
theorem rS_0_7 {R : Nat → Nat → Option Nat} (h : xRk R) {e : Nat} (he : e = 139 ∨ e = 315) : R (e + 0) 7 = some (e + 36) := by
  rcases he with rfl | rfl
  · exact h (139, 7, 175) (List.mem_of_getElem? (i := 145) (by decide +kernel))
  · exact h (315, 7, 351) (List.mem_of_getElem? (i := 323) (by decide +kernel))
theorem rS_0_8 {R : Nat → Nat → Option Nat} (h : xRk R) {e : Nat} (he : e = 139 ∨ e = 315) : R (e + 0) 8 = some (e + 37) := by
  rcases he with rfl | rfl
  · exact h (139, 8, 176) (List.mem_of_getElem? (i := 146) (by decide +kernel))
  · exact h (315, 8, 352) (List.mem_of_getElem? (i := 324) (by decide +kernel))
theorem rS_0_9 {R : Nat → Nat → Option Nat} (h : xRk R) {e : Nat} (he : e = 139 ∨ e = 315) : R (e + 0) 9 = some (e + 38) := by
  rcases he with rfl | rfl
  · exact h (139, 9, 177) (List.mem_of_getElem? (i := 147) (by decide +kernel))
  · exact h (315, 9, 353) (List.mem_of_getElem? (i := 325) (by decide +kernel))
theorem rS_0_10 {R : Nat → Nat → Option Nat} (h : xRk R) {e : Nat} (he : e = 139 ∨ e = 315) : R (e + 0) 10 = some (e + 142) := by
  rcases he with rfl | rfl
  · exact h (139, 10, 281) (List.mem_of_getElem? (i := 148) (by decide +kernel))
  · exact h (315, 10, 457) (List.mem_of_getElem? (i := 326) (by decide +kernel))
theorem rS_0_11 {R : Nat → Nat → Option Nat} (h : xRk R) {e : Nat} (he : e = 139 ∨ e = 315) : R (e + 0) 11 = some (e + 143) := by
  rcases he with rfl | rfl
  · exact h (139, 11, 282) (List.mem_of_getElem? (i := 149) (by decide +kernel))
  · exact h (315, 11, 458) (List.mem_of_getElem? (i := 327) (by decide +kernel))
theorem rS_1_0 {R : Nat → Nat → Option Nat} (h : xRk R) {e : Nat} (he : e = 139 ∨ e = 315) : R (e + 1) 0 = some (e + 2) := by
  rcases he with rfl | rfl
  · exact h (140, 0, 141) (List.mem_of_getElem? (i := 150) (by decide +kernel))
  · exact h (316, 0, 317) (List.mem_of_getElem? (i := 328) (by decide +kernel))
theorem rS_1_1 {R : Nat → Nat → Option Nat} (h : xRk R) {e : Nat} (he : e = 139 ∨ e = 315) : R (e + 1) 1 = some (e + 3) := by
  rcases he with rfl | rfl
  · exact h (140, 1, 142) (List.mem_of_getElem? (i := 151) (by decide +kernel))
  · exact h (316, 1, 318) (List.mem_of_getElem? (i := 329) (by decide +kernel))
theorem rS_1_2 {R : Nat → Nat → Option Nat} (h : xRk R) {e : Nat} (he : e = 139 ∨ e = 315) : R (e + 1) 2 = some (e + 4) := by
  rcases he with rfl | rfl
  · exact h (140, 2, 143) (List.mem_of_getElem? (i := 152) (by decide +kernel))
  · exact h (316, 2, 319) (List.mem_of_getElem? (i := 330) (by decide +kernel))
theorem rS_1_3 {R : Nat → Nat → Option Nat} (h : xRk R) {e : Nat} (he : e = 139 ∨ e = 315) : R (e + 1) 3 = some (e + 5) := by
  rcases he with rfl | rfl
  · exact h (140, 3, 144) (List.mem_of_getElem? (i := 153) (by decide +kernel))
  · exact h (316, 3, 320) (List.mem_of_getElem? (i := 331) (by decide +kernel))
theorem rS_1_9 {R : Nat → Nat → Option Nat} (h : xRk R) {e : Nat} (he : e = 139 ∨ e = 315) : R (e + 1) 9 = some (e + 6) := by
  rcases he with rfl | rfl
  · exact h (140, 9, 145) (List.mem_of_getElem? (i := 154) (by decide +kernel))
  · exact h (316, 9, 321) (List.mem_of_getElem? (i := 332) (by decide +kernel))
theorem rS_1_10 {R : Nat → Nat → Option Nat} (h : xRk R) {e : Nat} (he : e = 139 ∨ e = 315) : R (e + 1) 10 = some (e + 7) := by
  rcases he with rfl | rfl
  · exact h (140, 10, 146) (List.mem_of_getElem? (i := 155) (by decide +kernel))
  · exact h (316, 10, 322) (List.mem_of_getElem? (i := 333) (by decide +kernel))
theorem rS_8_0 {R : Nat → Nat → Option Nat} (h : xRk R) {e : Nat} (he : e = 139 ∨ e = 315) : R (e + 8) 0 = some (e + 9) := by
  rcases he with rfl | rfl
  · exact h (147, 0, 148) (List.mem_of_getElem? (i := 156) (by decide +kernel))
  · exact h (323, 0, 324) (List.mem_of_getElem? (i := 334) (by decide +kernel))
theorem rS_8_1 {R : Nat → Nat → Option Nat} (h : xRk R) {e : Nat} (he : e = 139 ∨ e = 315) : R (e + 8) 1 = some (e + 10) := by
  rcases he with rfl | rfl
  · exact h (147, 1, 149) (List.mem_of_getElem? (i := 157) (by decide +kernel))
  · exact h (323, 1, 325) (List.mem_of_getElem? (i := 335) (by decide +kernel))
theorem rS_8_2 {R : Nat → Nat → Option Nat} (h : xRk R) {e : Nat} (he : e = 139 ∨ e = 315) : R (e + 8) 2 = some (e + 11) := by
  rcases he with rfl | rfl
  · exact h (147, 2, 150) (List.mem_of_getElem? (i := 158) (by decide +kernel))
  · exact h (323, 2, 326) (List.mem_of_getElem? (i := 336) (by decide +kernel))
theorem rS_8_3 {R : Nat → Nat → Option Nat} (h : xRk R) {e : Nat} (he : e = 139 ∨ e = 315) : R (e + 8) 3 = some (e + 12) := by
  rcases he with rfl | rfl
  · exact h (147, 3, 151) (List.mem_of_getElem? (i := 159) (by decide +kernel))
  · exact h (323, 3, 327) (List.mem_of_getElem? (i := 337) (by decide +kernel))
theorem rS_8_4 {R : Nat → Nat → Option Nat} (h : xRk R) {e : Nat} (he : e = 139 ∨ e = 315) : R (e + 8) 4 = some (e + 13) := by
  rcases he with rfl | rfl
  · exact h (147, 4, 152) (List.mem_of_getElem? (i := 160) (by decide +kernel))
  · exact h (323, 4, 328) (List.mem_of_getElem? (i := 338) (by decide +kernel))
theorem rS_8_5 {R : Nat → Nat → Option Nat} (h : xRk R) {e : Nat} (he : e = 139 ∨ e = 315) : R (e + 8) 5 = some (e + 14) := by
  rcases he with rfl | rfl
  · exact h (147, 5, 153) (List.mem_of_getElem? (i := 161) (by decide +kernel))
  · exact h (323, 5, 329) (List.mem_of_getElem? (i := 339) (by decide +kernel))
theorem rS_8_6 {R : Nat → Nat → Option Nat} (h : xRk R) {e : Nat} (he : e = 139 ∨ e = 315) : R (e + 8) 6 = some (e + 15) := by
  rcases he with rfl | rfl
  · exact h (147, 6, 154) (List.mem_of_getElem? (i := 162) (by decide +kernel))
  · exact h (323, 6, 330) (List.mem_of_getElem? (i := 340) (by decide +kernel))
theorem rS_8_7 {R : Nat → Nat → Option Nat} (h : xRk R) {e : Nat} (he : e = 139 ∨ e = 315) : R (e + 8) 7 = some (e + 16) := by
  rcases he with rfl | rfl
  · exact h (147, 7, 155) (List.mem_of_getElem? (i := 163) (by decide +kernel))
  · exact h (323, 7, 331) (List.mem_of_getElem? (i := 341) (by decide +kernel))
theorem rS_17_0 {R : Nat → Nat → Option Nat} (h : xRk R) {e : Nat} (he : e = 139 ∨ e = 315) : R (e + 17) 0 = some (e + 18) := by
  rcases he with rfl | rfl
  · exact h (156, 0, 157) (List.mem_of_getElem? (i := 164) (by decide +kernel))
  · exact h (332, 0, 333) (List.mem_of_getElem? (i := 342) (by decide +kernel))
theorem rS_17_1 {R : Nat → Nat → Option Nat} (h : xRk R) {e : Nat} (he : e = 139 ∨ e = 315) : R (e + 17) 1 = some (e + 19) := by
  rcases he with rfl | rfl
  · exact h (156, 1, 158) (List.mem_of_getElem? (i := 165) (by decide +kernel))
  · exact h (332, 1, 334) (List.mem_of_getElem? (i := 343) (by decide +kernel))
theorem rS_17_2 {R : Nat → Nat → Option Nat} (h : xRk R) {e : Nat} (he : e = 139 ∨ e = 315) : R (e + 17) 2 = some (e + 20) := by
  rcases he with rfl | rfl
  · exact h (156, 2, 159) (List.mem_of_getElem? (i := 166) (by decide +kernel))
  · exact h (332, 2, 335) (List.mem_of_getElem? (i := 344) (by decide +kernel))
theorem rS_17_3 {R : Nat → Nat → Option Nat} (h : xRk R) {e : Nat} (he : e = 139 ∨ e = 315) : R (e + 17) 3 = some (e + 21) := by
  rcases he with rfl | rfl
  · exact h (156, 3, 160) (List.mem_of_getElem? (i := 167) (by decide +kernel))
  · exact h (332, 3, 336) (List.mem_of_getElem? (i := 345) (by decide +kernel))
theorem rS_17_4 {R : Nat → Nat → Option Nat} (h : xRk R) {e : Nat} (he : e = 139 ∨ e = 315) : R (e + 17) 4 = some (e + 27) := by
  rcases he with rfl | rfl
  · exact h (156, 4, 166) (List.mem_of_getElem? (i := 168) (by decide +kernel))
  · exact h (332, 4, 342) (List.mem_of_getElem? (i := 346) (by decide +kernel))
theorem rS_33_0 {R : Nat → Nat → Option Nat} (h : xRk R) {e : Nat} (he : e = 139 ∨ e = 315) : R (e + 33) 0 = some (e + 34) := by
  rcases he with rfl | rfl
  · exact h (172, 0, 173) (List.mem_of_getElem? (i := 179) (by decide +kernel))
  · exact h (348, 0, 349) (List.mem_of_getElem? (i := 357) (by decide +kernel))
theorem rS_33_1 {R : Nat → Nat → Option Nat} (h : xRk R) {e : Nat} (he : e = 139 ∨ e = 315) : R (e + 33) 1 = some (e + 35) := by
  rcases he with rfl | rfl
  · exact h (172, 1, 174) (List.mem_of_getElem? (i := 180) (by decide +kernel))
  · exact h (348, 1, 350) (List.mem_of_getElem? (i := 358) (by decide +kernel))
theorem rS_38_2 {R : Nat → Nat → Option Nat} (h : xRk R) {e : Nat} (he : e = 139 ∨ e = 315) : R (e + 38) 2 = some (e + 39) := by
  rcases he with rfl | rfl
  · exact h (177, 2, 178) (List.mem_of_getElem? (i := 185) (by decide +kernel))
  · exact h (353, 2, 354) (List.mem_of_getElem? (i := 363) (by decide +kernel))
theorem rS_38_3 {R : Nat → Nat → Option Nat} (h : xRk R) {e : Nat} (he : e = 139 ∨ e = 315) : R (e + 38) 3 = some (e + 140) := by
  rcases he with rfl | rfl
  · exact h (177, 3, 279) (List.mem_of_getElem? (i := 186) (by decide +kernel))
  · exact h (353, 3, 455) (List.mem_of_getElem? (i := 364) (by decide +kernel))
theorem rS_38_4 {R : Nat → Nat → Option Nat} (h : xRk R) {e : Nat} (he : e = 139 ∨ e = 315) : R (e + 38) 4 = some (e + 141) := by
  rcases he with rfl | rfl
  · exact h (177, 4, 280) (List.mem_of_getElem? (i := 187) (by decide +kernel))
  · exact h (353, 4, 456) (List.mem_of_getElem? (i := 365) (by decide +kernel))
theorem rS_144_0 {R : Nat → Nat → Option Nat} (h : xRk R) {e : Nat} (he : e = 139 ∨ e = 315) : R (e + 144) 0 = some 6 := by
  rcases he with rfl | rfl
  · exact h (283, 0, 6) (List.mem_of_getElem? (i := 288) (by decide +kernel))
  · exact h (459, 0, 6) (List.mem_of_getElem? (i := 466) (by decide +kernel))
theorem rS_144_1 {R : Nat → Nat → Option Nat} (h : xRk R) {e : Nat} (he : e = 139 ∨ e = 315) : R (e + 144) 1 = some (e + 145) := by
  rcases he with rfl | rfl
  · exact h (283, 1, 284) (List.mem_of_getElem? (i := 289) (by decide +kernel))
  · exact h (459, 1, 460) (List.mem_of_getElem? (i := 467) (by decide +kernel))
theorem rS_144_2 {R : Nat → Nat → Option Nat} (h : xRk R) {e : Nat} (he : e = 139 ∨ e = 315) : R (e + 144) 2 = some (e + 152) := by
  rcases he with rfl | rfl
  · exact h (283, 2, 291) (List.mem_of_getElem? (i := 290) (by decide +kernel))
  · exact h (459, 2, 467) (List.mem_of_getElem? (i := 468) (by decide +kernel))
theorem rS_144_3 {R : Nat → Nat → Option Nat} (h : xRk R) {e : Nat} (he : e = 139 ∨ e = 315) : R (e + 144) 3 = some (e + 157) := by
  rcases he with rfl | rfl
  · exact h (283, 3, 296) (List.mem_of_getElem? (i := 291) (by decide +kernel))
  · exact h (459, 3, 472) (List.mem_of_getElem? (i := 469) (by decide +kernel))
theorem rS_144_4 {R : Nat → Nat → Option Nat} (h : xRk R) {e : Nat} (he : e = 139 ∨ e = 315) : R (e + 144) 4 = some (e + 162) := by
  rcases he with rfl | rfl
  · exact h (283, 4, 301) (List.mem_of_getElem? (i := 292) (by decide +kernel))
  · exact h (459, 4, 477) (List.mem_of_getElem? (i := 470) (by decide +kernel))
theorem rS_144_5 {R : Nat → Nat → Option Nat} (h : xRk R) {e : Nat} (he : e = 139 ∨ e = 315) : R (e + 144) 5 = some (e + 163) := by
  rcases he with rfl | rfl
  · exact h (283, 5, 302) (List.mem_of_getElem? (i := 293) (by decide +kernel))
  · exact h (459, 5, 478) (List.mem_of_getElem? (i := 471) (by decide +kernel))
theorem rS_144_6 {R : Nat → Nat → Option Nat} (h : xRk R) {e : Nat} (he : e = 139 ∨ e = 315) : R (e + 144) 6 = some (e + 164) := by
  rcases he with rfl | rfl
  · exact h (283, 6, 303) (List.mem_of_getElem? (i := 294) (by decide +kernel))
  · exact h (459, 6, 479) (List.mem_of_getElem? (i := 472) (by decide +kernel))
theorem rS_144_7 {R : Nat → Nat → Option Nat} (h : xRk R) {e : Nat} (he : e = 139 ∨ e = 315) : R (e + 144) 7 = some (e + 165) := by
  rcases he with rfl | rfl
  · exact h (283, 7, 304) (List.mem_of_getElem? (i := 295) (by decide +kernel))
  · exact h (459, 7, 480) (List.mem_of_getElem? (i := 473) (by decide +kernel))
theorem rS_144_8 {R : Nat → Nat → Option Nat} (h : xRk R) {e : Nat} (he : e = 139 ∨ e = 315) : R (e + 144) 8 = some (e + 166) := by
  rcases he with rfl | rfl
  · exact h (283, 8, 305) (List.mem_of_getElem? (i := 296) (by decide +kernel))
  · exact h (459, 8, 481) (List.mem_of_getElem? (i := 474) (by decide +kernel))
theorem rS_144_9 {R : Nat → Nat → Option Nat} (h : xRk R) {e : Nat} (he : e = 139 ∨ e = 315) : R (e + 144) 9 = some (e + 167) := by
  rcases he with rfl | rfl
  · exact h (283, 9, 306) (List.mem_of_getElem? (i := 297) (by decide +kernel))
  · exact h (459, 9, 482) (List.mem_of_getElem? (i := 475) (by decide +kernel))
theorem rS_168_1 {R : Nat → Nat → Option Nat} (h : xRk R) {e : Nat} (he : e = 139 ∨ e = 315) : R (e + 168) 1 = some (if e = 139 then 75 else 11) := by
  rcases he with rfl | rfl
  · exact h (307, 1, 75) (List.mem_of_getElem? (i := 312) (by decide +kernel))
  · exact h (483, 1, 11) (List.mem_of_getElem? (i := 490) (by decide +kernel))
theorem rS_168_2 {R : Nat → Nat → Option Nat} (h : xRk R) {e : Nat} (he : e = 139 ∨ e = 315) : R (e + 168) 2 = some (e + 144) := by
  rcases he with rfl | rfl
  · exact h (307, 2, 283) (List.mem_of_getElem? (i := 313) (by decide +kernel))
  · exact h (483, 2, 459) (List.mem_of_getElem? (i := 491) (by decide +kernel))
theorem rS_168_3 {R : Nat → Nat → Option Nat} (h : xRk R) {e : Nat} (he : e = 139 ∨ e = 315) : R (e + 168) 3 = some (e + 169) := by
  rcases he with rfl | rfl
  · exact h (307, 3, 308) (List.mem_of_getElem? (i := 314) (by decide +kernel))
  · exact h (483, 3, 484) (List.mem_of_getElem? (i := 492) (by decide +kernel))
theorem rS_168_4 {R : Nat → Nat → Option Nat} (h : xRk R) {e : Nat} (he : e = 139 ∨ e = 315) : R (e + 168) 4 = some (e + 170) := by
  rcases he with rfl | rfl
  · exact h (307, 4, 309) (List.mem_of_getElem? (i := 315) (by decide +kernel))
  · exact h (483, 4, 485) (List.mem_of_getElem? (i := 493) (by decide +kernel))
theorem rS_168_5 {R : Nat → Nat → Option Nat} (h : xRk R) {e : Nat} (he : e = 139 ∨ e = 315) : R (e + 168) 5 = some (e + 171) := by
  rcases he with rfl | rfl
  · exact h (307, 5, 310) (List.mem_of_getElem? (i := 316) (by decide +kernel))
  · exact h (483, 5, 486) (List.mem_of_getElem? (i := 494) (by decide +kernel))
theorem r_491_5 {R : Nat → Nat → Option Nat} (h : xRk R) : R 491 5 = some 492 := h (491, 5, 492) (List.mem_of_getElem? (i := 495) (by decide +kernel))
theorem r_491_6 {R : Nat → Nat → Option Nat} (h : xRk R) : R 491 6 = some 493 := h (491, 6, 493) (List.mem_of_getElem? (i := 496) (by decide +kernel))
theorem r_491_8 {R : Nat → Nat → Option Nat} (h : xRk R) : R 491 8 = some 494 := h (491, 8, 494) (List.mem_of_getElem? (i := 497) (by decide +kernel))
theorem r_491_10 {R : Nat → Nat → Option Nat} (h : xRk R) : R 491 10 = some 495 := h (491, 10, 495) (List.mem_of_getElem? (i := 498) (by decide +kernel))
theorem r_491_11 {R : Nat → Nat → Option Nat} (h : xRk R) : R 491 11 = some 496 := h (491, 11, 496) (List.mem_of_getElem? (i := 499) (by decide +kernel))
theorem r_491_12 {R : Nat → Nat → Option Nat} (h : xRk R) : R 491 12 = some 497 := h (491, 12, 497) (List.mem_of_getElem? (i := 500) (by decide +kernel))
theorem r_491_14 {R : Nat → Nat → Option Nat} (h : xRk R) : R 491 14 = some 498 := h (491, 14, 498) (List.mem_of_getElem? (i := 501) (by decide +kernel))
theorem r_491_15 {R : Nat → Nat → Option Nat} (h : xRk R) : R 491 15 = some 499 := h (491, 15, 499) (List.mem_of_getElem? (i := 502) (by decide +kernel))
theorem r_491_16 {R : Nat → Nat → Option Nat} (h : xRk R) : R 491 16 = some 500 := h (491, 16, 500) (List.mem_of_getElem? (i := 503) (by decide +kernel))
theorem r_491_17 {R : Nat → Nat → Option Nat} (h : xRk R) : R 491 17 = some 501 := h (491, 17, 501) (List.mem_of_getElem? (i := 504) (by decide +kernel))
theorem r_491_18 {R : Nat → Nat → Option Nat} (h : xRk R) : R 491 18 = some 502 := h (491, 18, 502) (List.mem_of_getElem? (i := 505) (by decide +kernel))
theorem r_491_19 {R : Nat → Nat → Option Nat} (h : xRk R) : R 491 19 = some 503 := h (491, 19, 503) (List.mem_of_getElem? (i := 506) (by decide +kernel))
theorem r_491_20 {R : Nat → Nat → Option Nat} (h : xRk R) : R 491 20 = some 504 := h (491, 20, 504) (List.mem_of_getElem? (i := 507) (by decide +kernel))
theorem r_491_21 {R : Nat → Nat → Option Nat} (h : xRk R) : R 491 21 = some 505 := h (491, 21, 505) (List.mem_of_getElem? (i := 508) (by decide +kernel))
theorem r_491_22 {R : Nat → Nat → Option Nat} (h : xRk R) : R 491 22 = some 506 := h (491, 22, 506) (List.mem_of_getElem? (i := 509) (by decide +kernel))
theorem r_491_23 {R : Nat → Nat → Option Nat} (h : xRk R) : R 491 23 = some 507 := h (491, 23, 507) (List.mem_of_getElem? (i := 510) (by decide +kernel))
theorem r_491_24 {R : Nat → Nat → Option Nat} (h : xRk R) : R 491 24 = some 508 := h (491, 24, 508) (List.mem_of_getElem? (i := 511) (by decide +kernel))
theorem r_491_25 {R : Nat → Nat → Option Nat} (h : xRk R) : R 491 25 = some 509 := h (491, 25, 509) (List.mem_of_getElem? (i := 512) (by decide +kernel))
theorem r_491_26 {R : Nat → Nat → Option Nat} (h : xRk R) : R 491 26 = some 510 := h (491, 26, 510) (List.mem_of_getElem? (i := 513) (by decide +kernel))
theorem r_491_27 {R : Nat → Nat → Option Nat} (h : xRk R) : R 491 27 = some 511 := h (491, 27, 511) (List.mem_of_getElem? (i := 514) (by decide +kernel))
theorem r_491_28 {R : Nat → Nat → Option Nat} (h : xRk R) : R 491 28 = some 512 := h (491, 28, 512) (List.mem_of_getElem? (i := 515) (by decide +kernel))
theorem r_491_29 {R : Nat → Nat → Option Nat} (h : xRk R) : R 491 29 = some 513 := h (491, 29, 513) (List.mem_of_getElem? (i := 516) (by decide +kernel))
theorem r_491_31 {R : Nat → Nat → Option Nat} (h : xRk R) : R 491 31 = some 514 := h (491, 31, 514) (List.mem_of_getElem? (i := 517) (by decide +kernel))
theorem r_491_32 {R : Nat → Nat → Option Nat} (h : xRk R) : R 491 32 = some 515 := h (491, 32, 515) (List.mem_of_getElem? (i := 518) (by decide +kernel))
theorem r_491_34 {R : Nat → Nat → Option Nat} (h : xRk R) : R 491 34 = some 516 := h (491, 34, 516) (List.mem_of_getElem? (i := 519) (by decide +kernel))
theorem r_491_35 {R : Nat → Nat → Option Nat} (h : xRk R) : R 491 35 = some 517 := h (491, 35, 517) (List.mem_of_getElem? (i := 520) (by decide +kernel))
theorem r_491_36 {R : Nat → Nat → Option Nat} (h : xRk R) : R 491 36 = some 518 := h (491, 36, 518) (List.mem_of_getElem? (i := 521) (by decide +kernel))
theorem r_491_37 {R : Nat → Nat → Option Nat} (h : xRk R) : R 491 37 = some 519 := h (491, 37, 519) (List.mem_of_getElem? (i := 522) (by decide +kernel))
theorem r_491_38 {R : Nat → Nat → Option Nat} (h : xRk R) : R 491 38 = some 520 := h (491, 38, 520) (List.mem_of_getElem? (i := 523) (by decide +kernel))
theorem r_491_39 {R : Nat → Nat → Option Nat} (h : xRk R) : R 491 39 = some 521 := h (491, 39, 521) (List.mem_of_getElem? (i := 524) (by decide +kernel))
theorem r_491_40 {R : Nat → Nat → Option Nat} (h : xRk R) : R 491 40 = some 522 := h (491, 40, 522) (List.mem_of_getElem? (i := 525) (by decide +kernel))
theorem r_491_41 {R : Nat → Nat → Option Nat} (h : xRk R) : R 491 41 = some 523 := h (491, 41, 523) (List.mem_of_getElem? (i := 526) (by decide +kernel))
theorem r_491_42 {R : Nat → Nat → Option Nat} (h : xRk R) : R 491 42 = some 524 := h (491, 42, 524) (List.mem_of_getElem? (i := 527) (by decide +kernel))
theorem r_491_43 {R : Nat → Nat → Option Nat} (h : xRk R) : R 491 43 = some 525 := h (491, 43, 525) (List.mem_of_getElem? (i := 528) (by decide +kernel))
theorem r_491_44 {R : Nat → Nat → Option Nat} (h : xRk R) : R 491 44 = some 526 := h (491, 44, 526) (List.mem_of_getElem? (i := 529) (by decide +kernel))
theorem r_491_45 {R : Nat → Nat → Option Nat} (h : xRk R) : R 491 45 = some 527 := h (491, 45, 527) (List.mem_of_getElem? (i := 530) (by decide +kernel))
theorem r_491_46 {R : Nat → Nat → Option Nat} (h : xRk R) : R 491 46 = some 528 := h (491, 46, 528) (List.mem_of_getElem? (i := 531) (by decide +kernel))
theorem r_491_47 {R : Nat → Nat → Option Nat} (h : xRk R) : R 491 47 = some 529 := h (491, 47, 529) (List.mem_of_getElem? (i := 532) (by decide +kernel))
theorem r_491_48 {R : Nat → Nat → Option Nat} (h : xRk R) : R 491 48 = some 530 := h (491, 48, 530) (List.mem_of_getElem? (i := 533) (by decide +kernel))
theorem r_491_49 {R : Nat → Nat → Option Nat} (h : xRk R) : R 491 49 = some 531 := h (491, 49, 531) (List.mem_of_getElem? (i := 534) (by decide +kernel))
theorem r_491_50 {R : Nat → Nat → Option Nat} (h : xRk R) : R 491 50 = some 532 := h (491, 50, 532) (List.mem_of_getElem? (i := 535) (by decide +kernel))
theorem r_491_51 {R : Nat → Nat → Option Nat} (h : xRk R) : R 491 51 = some 533 := h (491, 51, 533) (List.mem_of_getElem? (i := 536) (by decide +kernel))
theorem r_491_52 {R : Nat → Nat → Option Nat} (h : xRk R) : R 491 52 = some 534 := h (491, 52, 534) (List.mem_of_getElem? (i := 537) (by decide +kernel))
theorem r_491_53 {R : Nat → Nat → Option Nat} (h : xRk R) : R 491 53 = some 535 := h (491, 53, 535) (List.mem_of_getElem? (i := 538) (by decide +kernel))
theorem r_491_54 {R : Nat → Nat → Option Nat} (h : xRk R) : R 491 54 = some 536 := h (491, 54, 536) (List.mem_of_getElem? (i := 539) (by decide +kernel))
theorem r_491_55 {R : Nat → Nat → Option Nat} (h : xRk R) : R 491 55 = some 537 := h (491, 55, 537) (List.mem_of_getElem? (i := 540) (by decide +kernel))
theorem r_491_56 {R : Nat → Nat → Option Nat} (h : xRk R) : R 491 56 = some 538 := h (491, 56, 538) (List.mem_of_getElem? (i := 541) (by decide +kernel))
theorem r_491_57 {R : Nat → Nat → Option Nat} (h : xRk R) : R 491 57 = some 539 := h (491, 57, 539) (List.mem_of_getElem? (i := 542) (by decide +kernel))
theorem r_491_59 {R : Nat → Nat → Option Nat} (h : xRk R) : R 491 59 = some 540 := h (491, 59, 540) (List.mem_of_getElem? (i := 543) (by decide +kernel))
theorem r_491_60 {R : Nat → Nat → Option Nat} (h : xRk R) : R 491 60 = some 541 := h (491, 60, 541) (List.mem_of_getElem? (i := 544) (by decide +kernel))
theorem r_491_61 {R : Nat → Nat → Option Nat} (h : xRk R) : R 491 61 = some 542 := h (491, 61, 542) (List.mem_of_getElem? (i := 545) (by decide +kernel))
theorem r_491_62 {R : Nat → Nat → Option Nat} (h : xRk R) : R 491 62 = some 543 := h (491, 62, 543) (List.mem_of_getElem? (i := 546) (by decide +kernel))
theorem r_491_63 {R : Nat → Nat → Option Nat} (h : xRk R) : R 491 63 = some 544 := h (491, 63, 544) (List.mem_of_getElem? (i := 547) (by decide +kernel))
theorem r_491_64 {R : Nat → Nat → Option Nat} (h : xRk R) : R 491 64 = some 545 := h (491, 64, 545) (List.mem_of_getElem? (i := 548) (by decide +kernel))
theorem r_491_65 {R : Nat → Nat → Option Nat} (h : xRk R) : R 491 65 = some 546 := h (491, 65, 546) (List.mem_of_getElem? (i := 549) (by decide +kernel))
theorem r_491_66 {R : Nat → Nat → Option Nat} (h : xRk R) : R 491 66 = some 547 := h (491, 66, 547) (List.mem_of_getElem? (i := 550) (by decide +kernel))
theorem r_491_67 {R : Nat → Nat → Option Nat} (h : xRk R) : R 491 67 = some 548 := h (491, 67, 548) (List.mem_of_getElem? (i := 551) (by decide +kernel))
theorem r_491_68 {R : Nat → Nat → Option Nat} (h : xRk R) : R 491 68 = some 549 := h (491, 68, 549) (List.mem_of_getElem? (i := 552) (by decide +kernel))
theorem r_491_69 {R : Nat → Nat → Option Nat} (h : xRk R) : R 491 69 = some 550 := h (491, 69, 550) (List.mem_of_getElem? (i := 553) (by decide +kernel))
theorem r_491_71 {R : Nat → Nat → Option Nat} (h : xRk R) : R 491 71 = some 551 := h (491, 71, 551) (List.mem_of_getElem? (i := 554) (by decide +kernel))
theorem fam_12 : ∀ i, i < 60 → (12, i, 13 + i) ∈ refT ∧ kd0 (13 + i) = 13 ∧ ln0 (13 + i) = 500 := by decide +kernel
theorem fam_76 : ∀ i, i < 60 → (76, i, 77 + i) ∈ refT ∧ kd0 (77 + i) = 13 ∧ ln0 (77 + i) = 500 := by decide +kernel
theorem fam_160 : ∀ i, i < 5 → (160, i, 161 + i) ∈ refT ∧ kd0 (161 + i) = 13 ∧ ln0 (161 + i) = 152 := by decide +kernel
theorem fam_166 : ∀ i, i < 5 → (166, i, 167 + i) ∈ refT ∧ kd0 (167 + i) = 13 ∧ ln0 (167 + i) = 152 := by decide +kernel
theorem fam_175 : ∀ i, i < 4 → (175, i, 311 + i) ∈ refT ∧ kd0 (311 + i) = 10 ∧ ln0 (311 + i) = 0 := by decide +kernel
theorem fam_178 : ∀ i, i < 100 → (178, i, 179 + i) ∈ refT ∧ kd0 (179 + i) = 13 ∧ ln0 (179 + i) = 60 := by decide +kernel
theorem fam_284 : ∀ i, i < 6 → (284, i, 285 + i) ∈ refT ∧ kd0 (285 + i) = 13 ∧ ln0 (285 + i) = 32 := by decide +kernel
theorem fam_291 : ∀ i, i < 4 → (291, i, 292 + i) ∈ refT ∧ kd0 (292 + i) = 13 ∧ ln0 (292 + i) = 32 := by decide +kernel
theorem fam_296 : ∀ i, i < 4 → (296, i, 297 + i) ∈ refT ∧ kd0 (297 + i) = 13 ∧ ln0 (297 + i) = 32 := by decide +kernel
theorem fam_336 : ∀ i, i < 5 → (336, i, 337 + i) ∈ refT ∧ kd0 (337 + i) = 13 ∧ ln0 (337 + i) = 152 := by decide +kernel
theorem fam_342 : ∀ i, i < 5 → (342, i, 343 + i) ∈ refT ∧ kd0 (343 + i) = 13 ∧ ln0 (343 + i) = 152 := by decide +kernel
theorem fam_351 : ∀ i, i < 4 → (351, i, 487 + i) ∈ refT ∧ kd0 (487 + i) = 10 ∧ ln0 (487 + i) = 0 := by decide +kernel
theorem fam_354 : ∀ i, i < 100 → (354, i, 355 + i) ∈ refT ∧ kd0 (355 + i) = 13 ∧ ln0 (355 + i) = 60 := by decide +kernel
theorem fam_460 : ∀ i, i < 6 → (460, i, 461 + i) ∈ refT ∧ kd0 (461 + i) = 13 ∧ ln0 (461 + i) = 32 := by decide +kernel
theorem fam_467 : ∀ i, i < 4 → (467, i, 468 + i) ∈ refT ∧ kd0 (468 + i) = 13 ∧ ln0 (468 + i) = 32 := by decide +kernel
theorem fam_472 : ∀ i, i < 4 → (472, i, 473 + i) ∈ refT ∧ kd0 (473 + i) = 13 ∧ ln0 (473 + i) = 32 := by decide +kernel
theorem fam_r {R : Nat → Nat → Option Nat} (h : xRk R) {a i b : Nat} (hm : (a, i, b) ∈ refT) : R a i = some b := h (a, i, b) hm
section XW
variable {G : xG} {l : Launch} {me : xMe} {mc ms : Nat} {Qv : Option Value → xM → Prop} {Qx : String → xM → Prop} {cells slots pc : Nat} {ls : List (Nat × Value)} {st : List Value} {al : Bool} {n : Nat} {R : Nat → Nat → Option Nat} {I I' : Nat → Nat → Int32} {L L' : Nat → Nat → Int64}
theorem xr_putI' {c k idx a : Nat} {x : Int32} (hI : I' = xu I a k x) (c0 k0 : Nat) (hd : decode me.2.1 pc = .ok (.putfield idx, 3)) (hw : Cond.fieldLink me.1.cls idx (xT c0 k0).1 (xT c0 k0).2.1 (xT c0 k0).2.2.1 ∈ xws) (hc : c0 < 13) (hk : k0 < xN c0) (ha : a < n) (hka : xkd G a = c0)
    (hfin : (xT c0 k0).2.2.2 = false ∨ ((xT c0 k0).2.2.2 = true ∧ me.1.name = "<init>" ∧ (xT c0 k0).1 = me.1.cls)) (hn : narrow (xty c0 k0) (.int x) = .int x) (hf : fits (xty c0 k0) (.int x) = true) (ht : ∀ (I' : Nat → Nat → Int32), xfv G R I' L (xty c0 k0) a k0 = .int (I' a k0)) (e1 : c0 = c := by rfl) (e2 : k0 = k := by rfl)
    (kk : xJ G l me mc ms Qv Qx cells slots (pc + 3) ls st al n R I' L) : xJ G l me mc ms Qv Qx cells slots pc ls (.int x :: .ref a :: st) al n R I L := by
  subst e2; subst hI
  exact xr_putI c0 k0 hd hw hc hk ha hka hfin hn hf ht kk
theorem xr_putL' {k idx a : Nat} {x : Int64} (hL : L' = xu L a k x) (c0 k0 : Nat) (hd : decode me.2.1 pc = .ok (.putfield idx, 3)) (hw : Cond.fieldLink me.1.cls idx (xT c0 k0).1 (xT c0 k0).2.1 (xT c0 k0).2.2.1 ∈ xws) (hc : c0 < 13) (hk : k0 < xN c0) (ha : a < n) (hka : xkd G a = c0)
    (hfin : (xT c0 k0).2.2.2 = false) (hn : narrow (xty c0 k0) (.long x) = .long x) (hf : fits (xty c0 k0) (.long x) = true) (ht : ∀ (L' : Nat → Nat → Int64), xfv G R I L' (xty c0 k0) a k0 = .long (L' a k0)) (e2 : k0 = k := by rfl)
    (kk : xJ G l me mc ms Qv Qx cells slots (pc + 3) ls st al n R I L') : xJ G l me mc ms Qv Qx cells slots pc ls (.long x :: .ref a :: st) al n R I L := by
  subst e2; subst hL
  exact xr_putL c0 k0 hd hw hc hk ha hka hfin hn hf ht kk
theorem xr_iastore' {a : Nat} {i x : Int32} (hI : I' = xu I a i.toNatClampNeg x) (hd : decode me.2.1 pc = .ok (.iastore, 1)) (ha : a < n) (hka : xkd G a = 13) (hi : vp_in i (xln G a))
    (kk : xJ G l me mc ms Qv Qx cells slots (pc + 1) ls st al n R I' L) : xJ G l me mc ms Qv Qx cells slots pc ls (.int x :: .int i :: .ref a :: st) al n R I L := by
  subst hI
  exact xr_iastore hd ha hka hi kk
theorem xr_zastore' {a : Nat} {i x : Int32} (hI : I' = xu I a i.toNatClampNeg (vp_nar .boolean x)) (hd : decode me.2.1 pc = .ok (.bastore, 1)) (ha : a < n) (hka : xkd G a = 14) (hi : vp_in i (xln G a))
    (kk : xJ G l me mc ms Qv Qx cells slots (pc + 1) ls st al n R I' L) : xJ G l me mc ms Qv Qx cells slots pc ls (.int x :: .int i :: .ref a :: st) al n R I L := by
  subst hI
  exact xr_zastore hd ha hka hi kk
theorem xr_lastore' {a : Nat} {i : Int32} {x : Int64} (hL : L' = xu L a i.toNatClampNeg x) (hd : decode me.2.1 pc = .ok (.lastore, 1)) (ha : a < n) (hka : xkd G a = 15) (hi : vp_in i (xln G a))
    (kk : xJ G l me mc ms Qv Qx cells slots (pc + 1) ls st al n R I L') : xJ G l me mc ms Qv Qx cells slots pc ls (.long x :: .int i :: .ref a :: st) al n R I L := by
  subst hL
  exact xr_lastore hd ha hka hi kk
theorem xr_acopy' {idx a0 a : Nat} {sp dp k : Int32} (hI : I' = va_up I a (va_cpy (I a0) (I a) sp.toNatClampNeg dp.toNatClampNeg k.toNatClampNeg)) (hd : decode me.2.1 pc = .ok (.invokestatic idx, 3)) (hw : Cond.methodLink me.1.cls idx arraycopyName ∈ xws)
    (ha0 : a0 < n) (hk0 : xkd G a0 = 13) (ha : a < n) (hka : xkd G a = 13) (h1 : ¬ sp < 0) (h2 : ¬ dp < 0) (h3 : ¬ k < 0) (h4 : sp.toNatClampNeg + k.toNatClampNeg ≤ xln G a0) (h5 : dp.toNatClampNeg + k.toNatClampNeg ≤ xln G a)
    (hR : 1 ≤ me.2.2.2.2.1 ∧ (st.map Value.category).sum + (nativeFrameWords "java/lang/System" "arraycopy" 5 + 11) ≤ me.2.2.2.2.2)
    (kk : xJ G l me mc ms Qv Qx cells slots (pc + 3) ls st al n R I' L) : xJ G l me mc ms Qv Qx cells slots pc ls (.int k :: .int dp :: .ref a :: .int sp :: .ref a0 :: st) al n R I L := by
  subst hI
  exact xr_acopy hd hw kcopy ha0 hk0 ha hka h1 h2 h3 h4 h5 hR rfl kk
end XW
/-- nothing changed but the cells S and the slots T -/
def xFr (S : List Nat) (T : List (Nat × Nat)) (I I' : Nat → Nat → Int32) : Prop := ∀ a k, a ∉ S → (a, k) ∉ T → I' a k = I a k
theorem xFr.rf {S : List Nat} {T : List (Nat × Nat)} {I : Nat → Nat → Int32} : xFr S T I I := fun _ _ _ _ => rfl
theorem xFr.tr {S : List Nat} {T : List (Nat × Nat)} {I I1 I2 : Nat → Nat → Int32} (h1 : xFr S T I I1) (h2 : xFr S T I1 I2) : xFr S T I I2 := fun a k ha hk => (h2 a k ha hk).trans (h1 a k ha hk)
theorem xFr.mono {S S' : List Nat} {T T' : List (Nat × Nat)} {I I' : Nat → Nat → Int32} (h : xFr S T I I') (hS : ∀ a, a ∈ S → a ∈ S') (hT : ∀ q, q ∈ T → q ∈ T' ∨ q.1 ∈ S') : xFr S' T' I I' := fun a k ha hk => h a k (fun q => ha (hS a q)) (fun q => (hT (a, k) q).elim hk ha)
theorem xFr.row {S : List Nat} {T : List (Nat × Nat)} {I I' : Nat → Nat → Int32} (h : xFr S T I I') {a : Nat} (ha : a ∉ S) (hT : ∀ q ∈ T, q.1 ≠ a) : I' a = I a := funext fun k => h a k ha (fun q => hT _ q rfl)
theorem xFr.u {S : List Nat} {T : List (Nat × Nat)} {I : Nat → Nat → Int32} {a k : Nat} {x : Int32} (h : a ∈ S ∨ (a, k) ∈ T) : xFr S T I (xu I a k x) := fun i j hi hj => xu_n I x (by
  by_cases e : i = a
  · subst e
    right
    intro e2
    subst e2
    exact h.elim hi hj
  · exact Or.inl e)
theorem xFr.up {S : List Nat} {T : List (Nat × Nat)} {I : Nat → Nat → Int32} {a : Nat} {f : Nat → Int32} (h : a ∈ S) : xFr S T I (va_up I a f) := fun i j hi _ => by
  have e : i ≠ a := fun e => hi (by rw [e]; exact h)
  rw [va_up_ne I f e]

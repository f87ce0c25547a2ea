/-! THE CLASS, 2: its worlds -/
def cx_T : cc_W := fun O A => [(0, 8, [(4, 1), (0, O 0 1)], fun _ => 0), (1, 940, [], A 1)]
def cx_T80 : cc_W := fun O A => [(0, 8, [(4, 1), (0, O 0 1)], fun _ => 0), (1, 80, [], A 1)]
def cx_R : cc_W := fun O A => [(0, 6, [(4, 2), (4, 1), (0, O 0 2), (0, O 0 3), (0, O 0 4), (0, O 0 5), (0, O 0 6), (2, O 0 7), (0, O 0 8), (0, O 0 9), (0, O 0 10)], fun _ => 0), (2, 24, [], A 1), (0, 8, [(4, 3), (0, O 2 1)], fun _ => 0), (1, 940, [], A 3)]
def cx_H : cc_W := fun O A => [(0, 2, [(4, 1), (4, 2), (4, 3), (4, 4), (4, 5), (4, 6), (0, O 0 6), (0, O 0 7)], fun _ => 0), (1, 3, [], A 1), (2, 30, [], A 2), (1, 10, [], A 3), (1, 10, [], A 4), (1, 10, [], A 5), (1, 32, [], A 6)]
def cx_HR : cc_W := fun O A => [(0, 2, [(4, 1), (4, 2), (4, 3), (4, 4), (4, 5), (4, 6), (0, O 0 6), (0, O 0 7)], fun _ => 0), (1, 3, [], A 1), (2, 30, [], A 2), (1, 10, [], A 3), (1, 10, [], A 4), (1, 10, [], A 5), (1, 32, [], A 6), (0, 6, [(4, 9), (4, 8), (0, O 7 2), (0, O 7 3), (0, O 7 4), (0, O 7 5), (0, O 7 6), (2, O 7 7), (0, O 7 8), (0, O 7 9), (0, O 7 10)], fun _ => 0), (2, 24, [], A 8), (0, 8, [(4, 10), (0, O 9 1)], fun _ => 0), (1, 940, [], A 10)]
def cx_HT : cc_W := fun O A => [(0, 2, [(4, 1), (4, 2), (4, 3), (4, 4), (4, 5), (4, 6), (0, O 0 6), (0, O 0 7)], fun _ => 0), (1, 3, [], A 1), (2, 30, [], A 2), (1, 10, [], A 3), (1, 10, [], A 4), (1, 10, [], A 5), (1, 32, [], A 6), (0, 8, [(4, 8), (0, O 7 1)], fun _ => 0), (1, 940, [], A 8)]
def cx_HH : cc_W := fun O A => [(0, 2, [(4, 1), (4, 2), (4, 3), (4, 4), (4, 5), (4, 6), (0, O 0 6), (0, O 0 7)], fun _ => 0), (1, 3, [], A 1), (2, 30, [], A 2), (1, 10, [], A 3), (1, 10, [], A 4), (1, 10, [], A 5), (1, 32, [], A 6), (0, 2, [(4, 8), (4, 9), (4, 10), (4, 11), (4, 12), (4, 13), (0, O 7 6), (0, O 7 7)], fun _ => 0), (1, 3, [], A 8), (2, 30, [], A 9), (1, 10, [], A 10), (1, 10, [], A 11), (1, 10, [], A 12), (1, 32, [], A 13)]
def cx_L : cc_W := fun O A => [(0, 4, [(4, 8), (4, 1), (4, 2), (4, 3), (4, 4), (4, 5), (4, 6), (4, 7), (0, O 0 8), (0, O 0 9), (0, O 0 10)], fun _ => 0), (1, 10, [], A 1), (1, 10, [], A 2), (1, 4, [], A 3), (1, 4, [], A 4), (1, 4, [], A 5), (1, 32, [], A 6), (1, 16, [], A 7), (0, 2, [(4, 9), (4, 10), (4, 11), (4, 12), (4, 13), (4, 14), (0, O 8 6), (0, O 8 7)], fun _ => 0), (1, 3, [], A 9), (2, 30, [], A 10), (1, 10, [], A 11), (1, 10, [], A 12), (1, 10, [], A 13), (1, 32, [], A 14)]
def cx_LL : cc_W := fun O A => [(0, 4, [(4, 16), (4, 1), (4, 2), (4, 3), (4, 4), (4, 5), (4, 6), (4, 7), (0, O 0 8), (0, O 0 9), (0, O 0 10)], fun _ => 0), (1, 10, [], A 1), (1, 10, [], A 2), (1, 4, [], A 3), (1, 4, [], A 4), (1, 4, [], A 5), (1, 32, [], A 6), (1, 16, [], A 7), (0, 4, [(4, 16), (4, 9), (4, 10), (4, 11), (4, 12), (4, 13), (4, 14), (4, 15), (0, O 8 8), (0, O 8 9), (0, O 8 10)], fun _ => 0), (1, 10, [], A 9), (1, 10, [], A 10), (1, 4, [], A 11), (1, 4, [], A 12), (1, 4, [], A 13), (1, 32, [], A 14), (1, 16, [], A 15), (0, 2, [(4, 17), (4, 18), (4, 19), (4, 20), (4, 21), (4, 22), (0, O 16 6), (0, O 16 7)], fun _ => 0), (1, 3, [], A 17), (2, 30, [], A 18), (1, 10, [], A 19), (1, 10, [], A 20), (1, 10, [], A 21), (1, 32, [], A 22)]
def cx_B : cc_W := fun O A => [(0, 0, [(4, 1), (4, 2), (4, 3), (4, 4), (0, O 0 4), (0, O 0 5)], fun _ => 0), (1, 40, [], A 1), (1, 40, [], A 2), (1, 40, [], A 3), (1, 4, [], A 4)]
def cx_BHR : cc_W := fun O A => [(0, 0, [(4, 1), (4, 2), (4, 3), (4, 4), (0, O 0 4), (0, O 0 5)], fun _ => 0), (1, 40, [], A 1), (1, 40, [], A 2), (1, 40, [], A 3), (1, 4, [], A 4), (0, 2, [(4, 6), (4, 7), (4, 8), (4, 9), (4, 10), (4, 11), (0, O 5 6), (0, O 5 7)], fun _ => 0), (1, 3, [], A 6), (2, 30, [], A 7), (1, 10, [], A 8), (1, 10, [], A 9), (1, 10, [], A 10), (1, 32, [], A 11), (0, 6, [(4, 14), (4, 13), (0, O 12 2), (0, O 12 3), (0, O 12 4), (0, O 12 5), (0, O 12 6), (2, O 12 7), (0, O 12 8), (0, O 12 9), (0, O 12 10)], fun _ => 0), (2, 24, [], A 13), (0, 8, [(4, 15), (0, O 14 1)], fun _ => 0), (1, 940, [], A 15)]
def cx_BL : cc_W := fun O A => [(0, 0, [(4, 1), (4, 2), (4, 3), (4, 4), (0, O 0 4), (0, O 0 5)], fun _ => 0), (1, 40, [], A 1), (1, 40, [], A 2), (1, 40, [], A 3), (1, 4, [], A 4), (0, 4, [(4, 13), (4, 6), (4, 7), (4, 8), (4, 9), (4, 10), (4, 11), (4, 12), (0, O 5 8), (0, O 5 9), (0, O 5 10)], fun _ => 0), (1, 10, [], A 6), (1, 10, [], A 7), (1, 4, [], A 8), (1, 4, [], A 9), (1, 4, [], A 10), (1, 32, [], A 11), (1, 16, [], A 12), (0, 2, [(4, 14), (4, 15), (4, 16), (4, 17), (4, 18), (4, 19), (0, O 13 6), (0, O 13 7)], fun _ => 0), (1, 3, [], A 14), (2, 30, [], A 15), (1, 10, [], A 16), (1, 10, [], A 17), (1, 10, [], A 18), (1, 32, [], A 19)]
def cx_BR : cc_W := fun O A => [(0, 0, [(4, 1), (4, 2), (4, 3), (4, 4), (0, O 0 4), (0, O 0 5)], fun _ => 0), (1, 40, [], A 1), (1, 40, [], A 2), (1, 40, [], A 3), (1, 4, [], A 4), (0, 6, [(4, 7), (4, 6), (0, O 5 2), (0, O 5 3), (0, O 5 4), (0, O 5 5), (0, O 5 6), (2, O 5 7), (0, O 5 8), (0, O 5 9), (0, O 5 10)], fun _ => 0), (2, 24, [], A 6), (0, 8, [(4, 8), (0, O 7 1)], fun _ => 0), (1, 940, [], A 8)]
def cx_S : cc_W := fun O A => [(0, 7, [(4, 1), (4, 2), (4, 3), (4, 4), (0, O 0 4), (0, O 0 5), (0, O 0 6)], fun _ => 0), (1, 40, [], A 1), (1, 40, [], A 2), (1, 40, [], A 3), (1, 40, [], A 4)]
def cx_SS : cc_W := fun O A => [(0, 7, [(4, 1), (4, 2), (4, 3), (4, 4), (0, O 0 4), (0, O 0 5), (0, O 0 6)], fun _ => 0), (1, 40, [], A 1), (1, 40, [], A 2), (1, 40, [], A 3), (1, 40, [], A 4), (0, 7, [(4, 6), (4, 7), (4, 8), (4, 9), (0, O 5 4), (0, O 5 5), (0, O 5 6)], fun _ => 0), (1, 40, [], A 6), (1, 40, [], A 7), (1, 40, [], A 8), (1, 40, [], A 9)]
def cx_SHR : cc_W := fun O A => [(0, 7, [(4, 1), (4, 2), (4, 3), (4, 4), (0, O 0 4), (0, O 0 5), (0, O 0 6)], fun _ => 0), (1, 40, [], A 1), (1, 40, [], A 2), (1, 40, [], A 3), (1, 40, [], A 4), (0, 2, [(4, 6), (4, 7), (4, 8), (4, 9), (4, 10), (4, 11), (0, O 5 6), (0, O 5 7)], fun _ => 0), (1, 3, [], A 6), (2, 30, [], A 7), (1, 10, [], A 8), (1, 10, [], A 9), (1, 10, [], A 10), (1, 32, [], A 11), (0, 6, [(4, 14), (4, 13), (0, O 12 2), (0, O 12 3), (0, O 12 4), (0, O 12 5), (0, O 12 6), (2, O 12 7), (0, O 12 8), (0, O 12 9), (0, O 12 10)], fun _ => 0), (2, 24, [], A 13), (0, 8, [(4, 15), (0, O 14 1)], fun _ => 0), (1, 940, [], A 15)]
def cx_SL : cc_W := fun O A => [(0, 7, [(4, 1), (4, 2), (4, 3), (4, 4), (0, O 0 4), (0, O 0 5), (0, O 0 6)], fun _ => 0), (1, 40, [], A 1), (1, 40, [], A 2), (1, 40, [], A 3), (1, 40, [], A 4), (0, 4, [(4, 13), (4, 6), (4, 7), (4, 8), (4, 9), (4, 10), (4, 11), (4, 12), (0, O 5 8), (0, O 5 9), (0, O 5 10)], fun _ => 0), (1, 10, [], A 6), (1, 10, [], A 7), (1, 4, [], A 8), (1, 4, [], A 9), (1, 4, [], A 10), (1, 32, [], A 11), (1, 16, [], A 12), (0, 2, [(4, 14), (4, 15), (4, 16), (4, 17), (4, 18), (4, 19), (0, O 13 6), (0, O 13 7)], fun _ => 0), (1, 3, [], A 14), (2, 30, [], A 15), (1, 10, [], A 16), (1, 10, [], A 17), (1, 10, [], A 18), (1, 32, [], A 19)]
def cx_SR : cc_W := fun O A => [(0, 7, [(4, 1), (4, 2), (4, 3), (4, 4), (0, O 0 4), (0, O 0 5), (0, O 0 6)], fun _ => 0), (1, 40, [], A 1), (1, 40, [], A 2), (1, 40, [], A 3), (1, 40, [], A 4), (0, 6, [(4, 7), (4, 6), (0, O 5 2), (0, O 5 3), (0, O 5 4), (0, O 5 5), (0, O 5 6), (2, O 5 7), (0, O 5 8), (0, O 5 9), (0, O 5 10)], fun _ => 0), (2, 24, [], A 6), (0, 8, [(4, 8), (0, O 7 1)], fun _ => 0), (1, 940, [], A 8)]
def cx_F : cc_W := fun O A => [(0, 1, [(2, O 0 0), (2, O 0 1)], fun _ => 0)]
def cx_Lo : cc_W := fun O A => [(0, 5, [(4, 13), (4, 5), (4, 1), (4, 2), (4, 3), (4, 4), (0, O 0 6)], fun _ => 0), (2, 9, [], A 1), (1, 10, [], A 2), (1, 4, [], A 3), (1, 4, [], A 4), (0, 4, [(4, 13), (4, 6), (4, 7), (4, 8), (4, 9), (4, 10), (4, 11), (4, 12), (0, O 5 8), (0, O 5 9), (0, O 5 10)], fun _ => 0), (1, 10, [], A 6), (1, 10, [], A 7), (1, 4, [], A 8), (1, 4, [], A 9), (1, 4, [], A 10), (1, 32, [], A 11), (1, 16, [], A 12), (0, 2, [(4, 14), (4, 15), (4, 16), (4, 17), (4, 18), (4, 19), (0, O 13 6), (0, O 13 7)], fun _ => 0), (1, 3, [], A 14), (2, 30, [], A 15), (1, 10, [], A 16), (1, 10, [], A 17), (1, 10, [], A 18), (1, 32, [], A 19)]
def cx_LoF : cc_W := fun O A => [(0, 5, [(4, 13), (4, 5), (4, 1), (4, 2), (4, 3), (4, 4), (0, O 0 6)], fun _ => 0), (2, 9, [], A 1), (1, 10, [], A 2), (1, 4, [], A 3), (1, 4, [], A 4), (0, 4, [(4, 13), (4, 6), (4, 7), (4, 8), (4, 9), (4, 10), (4, 11), (4, 12), (0, O 5 8), (0, O 5 9), (0, O 5 10)], fun _ => 0), (1, 10, [], A 6), (1, 10, [], A 7), (1, 4, [], A 8), (1, 4, [], A 9), (1, 4, [], A 10), (1, 32, [], A 11), (1, 16, [], A 12), (0, 2, [(4, 14), (4, 15), (4, 16), (4, 17), (4, 18), (4, 19), (0, O 13 6), (0, O 13 7)], fun _ => 0), (1, 3, [], A 14), (2, 30, [], A 15), (1, 10, [], A 16), (1, 10, [], A 17), (1, 10, [], A 18), (1, 32, [], A 19), (0, 1, [(2, O 20 0), (2, O 20 1)], fun _ => 0)]
def cx_LoT : cc_W := fun O A => [(0, 5, [(4, 13), (4, 5), (4, 1), (4, 2), (4, 3), (4, 4), (0, O 0 6)], fun _ => 0), (2, 9, [], A 1), (1, 10, [], A 2), (1, 4, [], A 3), (1, 4, [], A 4), (0, 4, [(4, 13), (4, 6), (4, 7), (4, 8), (4, 9), (4, 10), (4, 11), (4, 12), (0, O 5 8), (0, O 5 9), (0, O 5 10)], fun _ => 0), (1, 10, [], A 6), (1, 10, [], A 7), (1, 4, [], A 8), (1, 4, [], A 9), (1, 4, [], A 10), (1, 32, [], A 11), (1, 16, [], A 12), (0, 2, [(4, 14), (4, 15), (4, 16), (4, 17), (4, 18), (4, 19), (0, O 13 6), (0, O 13 7)], fun _ => 0), (1, 3, [], A 14), (2, 30, [], A 15), (1, 10, [], A 16), (1, 10, [], A 17), (1, 10, [], A 18), (1, 32, [], A 19), (0, 8, [(4, 21), (0, O 20 1)], fun _ => 0), (1, 940, [], A 21)]
def cx_LoTF : cc_W := fun O A => [(0, 5, [(4, 13), (4, 5), (4, 1), (4, 2), (4, 3), (4, 4), (0, O 0 6)], fun _ => 0), (2, 9, [], A 1), (1, 10, [], A 2), (1, 4, [], A 3), (1, 4, [], A 4), (0, 4, [(4, 13), (4, 6), (4, 7), (4, 8), (4, 9), (4, 10), (4, 11), (4, 12), (0, O 5 8), (0, O 5 9), (0, O 5 10)], fun _ => 0), (1, 10, [], A 6), (1, 10, [], A 7), (1, 4, [], A 8), (1, 4, [], A 9), (1, 4, [], A 10), (1, 32, [], A 11), (1, 16, [], A 12), (0, 2, [(4, 14), (4, 15), (4, 16), (4, 17), (4, 18), (4, 19), (0, O 13 6), (0, O 13 7)], fun _ => 0), (1, 3, [], A 14), (2, 30, [], A 15), (1, 10, [], A 16), (1, 10, [], A 17), (1, 10, [], A 18), (1, 32, [], A 19), (0, 8, [(4, 21), (0, O 20 1)], fun _ => 0), (1, 940, [], A 21), (0, 1, [(2, O 22 0), (2, O 22 1)], fun _ => 0)]
def cx_U : cc_W := fun O A => [(0, 9, [(4, 1), (0, O 0 1), (0, O 0 2)], fun _ => 0), (3, 4, [(4, 2), (4, 10), (4, 18), (4, 26), (4, 34), (4, 42), (4, 50), (4, 58)], fun _ => 0), (0, 4, [(4, 74), (4, 3), (4, 4), (4, 5), (4, 6), (4, 7), (4, 8), (4, 9), (0, O 2 8), (0, O 2 9), (0, O 2 10)], fun _ => 0), (1, 10, [], A 3), (1, 10, [], A 4), (1, 4, [], A 5), (1, 4, [], A 6), (1, 4, [], A 7), (1, 32, [], A 8), (1, 16, [], A 9), (0, 4, [(4, 74), (4, 11), (4, 12), (4, 13), (4, 14), (4, 15), (4, 16), (4, 17), (0, O 10 8), (0, O 10 9), (0, O 10 10)], fun _ => 0), (1, 10, [], A 11), (1, 10, [], A 12), (1, 4, [], A 13), (1, 4, [], A 14), (1, 4, [], A 15), (1, 32, [], A 16), (1, 16, [], A 17), (0, 4, [(4, 74), (4, 19), (4, 20), (4, 21), (4, 22), (4, 23), (4, 24), (4, 25), (0, O 18 8), (0, O 18 9), (0, O 18 10)], fun _ => 0), (1, 10, [], A 19), (1, 10, [], A 20), (1, 4, [], A 21), (1, 4, [], A 22), (1, 4, [], A 23), (1, 32, [], A 24), (1, 16, [], A 25), (0, 4, [(4, 74), (4, 27), (4, 28), (4, 29), (4, 30), (4, 31), (4, 32), (4, 33), (0, O 26 8), (0, O 26 9), (0, O 26 10)], fun _ => 0), (1, 10, [], A 27), (1, 10, [], A 28), (1, 4, [], A 29), (1, 4, [], A 30), (1, 4, [], A 31), (1, 32, [], A 32), (1, 16, [], A 33), (0, 4, [(4, 74), (4, 35), (4, 36), (4, 37), (4, 38), (4, 39), (4, 40), (4, 41), (0, O 34 8), (0, O 34 9), (0, O 34 10)], fun _ => 0), (1, 10, [], A 35), (1, 10, [], A 36), (1, 4, [], A 37), (1, 4, [], A 38), (1, 4, [], A 39), (1, 32, [], A 40), (1, 16, [], A 41), (0, 4, [(4, 74), (4, 43), (4, 44), (4, 45), (4, 46), (4, 47), (4, 48), (4, 49), (0, O 42 8), (0, O 42 9), (0, O 42 10)], fun _ => 0), (1, 10, [], A 43), (1, 10, [], A 44), (1, 4, [], A 45), (1, 4, [], A 46), (1, 4, [], A 47), (1, 32, [], A 48), (1, 16, [], A 49), (0, 4, [(4, 74), (4, 51), (4, 52), (4, 53), (4, 54), (4, 55), (4, 56), (4, 57), (0, O 50 8), (0, O 50 9), (0, O 50 10)], fun _ => 0), (1, 10, [], A 51), (1, 10, [], A 52), (1, 4, [], A 53), (1, 4, [], A 54), (1, 4, [], A 55), (1, 32, [], A 56), (1, 16, [], A 57), (0, 4, [(4, 74), (4, 59), (4, 60), (4, 61), (4, 62), (4, 63), (4, 64), (4, 65), (0, O 58 8), (0, O 58 9), (0, O 58 10)], fun _ => 0), (1, 10, [], A 59), (1, 10, [], A 60), (1, 4, [], A 61), (1, 4, [], A 62), (1, 4, [], A 63), (1, 32, [], A 64), (1, 16, [], A 65), (0, 4, [(4, 74), (4, 67), (4, 68), (4, 69), (4, 70), (4, 71), (4, 72), (4, 73), (0, O 66 8), (0, O 66 9), (0, O 66 10)], fun _ => 0), (1, 10, [], A 67), (1, 10, [], A 68), (1, 4, [], A 69), (1, 4, [], A 70), (1, 4, [], A 71), (1, 32, [], A 72), (1, 16, [], A 73), (0, 2, [(4, 75), (4, 76), (4, 77), (4, 78), (4, 79), (4, 80), (0, O 74 6), (0, O 74 7)], fun _ => 0), (1, 3, [], A 75), (2, 30, [], A 76), (1, 10, [], A 77), (1, 10, [], A 78), (1, 10, [], A 79), (1, 32, [], A 80)]
def cx_C : cc_W := fun O A => [(0, 10, [(4, 1), (4, 3), (4, 5), (4, 12), (4, 19), (4, 27), (4, 35), (4, 101), (4, 144), (4, 149), (4, 154), (4, 159), (4, 164), (4, 165), (4, 166), (0, O 0 15), (0, O 0 16), (0, O 0 17)], fun _ => 0), (0, 8, [(4, 2), (0, O 1 1)], fun _ => 0), (1, 940, [], A 2), (0, 6, [(4, 1), (4, 4), (0, O 3 2), (0, O 3 3), (0, O 3 4), (0, O 3 5), (0, O 3 6), (2, O 3 7), (0, O 3 8), (0, O 3 9), (0, O 3 10)], fun _ => 0), (2, 24, [], A 4), (0, 2, [(4, 6), (4, 7), (4, 8), (4, 9), (4, 10), (4, 11), (0, O 5 6), (0, O 5 7)], fun _ => 0), (1, 3, [], A 6), (2, 30, [], A 7), (1, 10, [], A 8), (1, 10, [], A 9), (1, 10, [], A 10), (1, 32, [], A 11), (0, 2, [(4, 13), (4, 14), (4, 15), (4, 16), (4, 17), (4, 18), (0, O 12 6), (0, O 12 7)], fun _ => 0), (1, 3, [], A 13), (2, 30, [], A 14), (1, 10, [], A 15), (1, 10, [], A 16), (1, 10, [], A 17), (1, 32, [], A 18), (0, 4, [(4, 5), (4, 20), (4, 21), (4, 22), (4, 23), (4, 24), (4, 25), (4, 26), (0, O 19 8), (0, O 19 9), (0, O 19 10)], fun _ => 0), (1, 10, [], A 20), (1, 10, [], A 21), (1, 4, [], A 22), (1, 4, [], A 23), (1, 4, [], A 24), (1, 32, [], A 25), (1, 16, [], A 26), (0, 4, [(4, 5), (4, 28), (4, 29), (4, 30), (4, 31), (4, 32), (4, 33), (4, 34), (0, O 27 8), (0, O 27 9), (0, O 27 10)], fun _ => 0), (1, 10, [], A 28), (1, 10, [], A 29), (1, 4, [], A 30), (1, 4, [], A 31), (1, 4, [], A 32), (1, 32, [], A 33), (1, 16, [], A 34), (0, 9, [(4, 36), (0, O 35 1), (0, O 35 2)], fun _ => 0), (3, 4, [(4, 37), (4, 45), (4, 53), (4, 61), (4, 69), (4, 77), (4, 85), (4, 93)], fun _ => 0), (0, 4, [(4, 5), (4, 38), (4, 39), (4, 40), (4, 41), (4, 42), (4, 43), (4, 44), (0, O 37 8), (0, O 37 9), (0, O 37 10)], fun _ => 0), (1, 10, [], A 38), (1, 10, [], A 39), (1, 4, [], A 40), (1, 4, [], A 41), (1, 4, [], A 42), (1, 32, [], A 43), (1, 16, [], A 44), (0, 4, [(4, 5), (4, 46), (4, 47), (4, 48), (4, 49), (4, 50), (4, 51), (4, 52), (0, O 45 8), (0, O 45 9), (0, O 45 10)], fun _ => 0), (1, 10, [], A 46), (1, 10, [], A 47), (1, 4, [], A 48), (1, 4, [], A 49), (1, 4, [], A 50), (1, 32, [], A 51), (1, 16, [], A 52), (0, 4, [(4, 5), (4, 54), (4, 55), (4, 56), (4, 57), (4, 58), (4, 59), (4, 60), (0, O 53 8), (0, O 53 9), (0, O 53 10)], fun _ => 0), (1, 10, [], A 54), (1, 10, [], A 55), (1, 4, [], A 56), (1, 4, [], A 57), (1, 4, [], A 58), (1, 32, [], A 59), (1, 16, [], A 60), (0, 4, [(4, 5), (4, 62), (4, 63), (4, 64), (4, 65), (4, 66), (4, 67), (4, 68), (0, O 61 8), (0, O 61 9), (0, O 61 10)], fun _ => 0), (1, 10, [], A 62), (1, 10, [], A 63), (1, 4, [], A 64), (1, 4, [], A 65), (1, 4, [], A 66), (1, 32, [], A 67), (1, 16, [], A 68), (0, 4, [(4, 5), (4, 70), (4, 71), (4, 72), (4, 73), (4, 74), (4, 75), (4, 76), (0, O 69 8), (0, O 69 9), (0, O 69 10)], fun _ => 0), (1, 10, [], A 70), (1, 10, [], A 71), (1, 4, [], A 72), (1, 4, [], A 73), (1, 4, [], A 74), (1, 32, [], A 75), (1, 16, [], A 76), (0, 4, [(4, 5), (4, 78), (4, 79), (4, 80), (4, 81), (4, 82), (4, 83), (4, 84), (0, O 77 8), (0, O 77 9), (0, O 77 10)], fun _ => 0), (1, 10, [], A 78), (1, 10, [], A 79), (1, 4, [], A 80), (1, 4, [], A 81), (1, 4, [], A 82), (1, 32, [], A 83), (1, 16, [], A 84), (0, 4, [(4, 5), (4, 86), (4, 87), (4, 88), (4, 89), (4, 90), (4, 91), (4, 92), (0, O 85 8), (0, O 85 9), (0, O 85 10)], fun _ => 0), (1, 10, [], A 86), (1, 10, [], A 87), (1, 4, [], A 88), (1, 4, [], A 89), (1, 4, [], A 90), (1, 32, [], A 91), (1, 16, [], A 92), (0, 4, [(4, 5), (4, 94), (4, 95), (4, 96), (4, 97), (4, 98), (4, 99), (4, 100), (0, O 93 8), (0, O 93 9), (0, O 93 10)], fun _ => 0), (1, 10, [], A 94), (1, 10, [], A 95), (1, 4, [], A 96), (1, 4, [], A 97), (1, 4, [], A 98), (1, 32, [], A 99), (1, 16, [], A 100), (3, 3, [(4, 102), (4, 123)], fun _ => 0), (0, 3, [(4, 103), (4, 110), (4, 118), (0, O 102 3)], fun _ => 0), (0, 2, [(4, 104), (4, 105), (4, 106), (4, 107), (4, 108), (4, 109), (0, O 103 6), (0, O 103 7)], fun _ => 0), (1, 3, [], A 104), (2, 30, [], A 105), (1, 10, [], A 106), (1, 10, [], A 107), (1, 10, [], A 108), (1, 32, [], A 109), (0, 4, [(4, 5), (4, 111), (4, 112), (4, 113), (4, 114), (4, 115), (4, 116), (4, 117), (0, O 110 8), (0, O 110 9), (0, O 110 10)], fun _ => 0), (1, 10, [], A 111), (1, 10, [], A 112), (1, 4, [], A 113), (1, 4, [], A 114), (1, 4, [], A 115), (1, 32, [], A 116), (1, 16, [], A 117), (0, 7, [(4, 119), (4, 120), (4, 121), (4, 122), (0, O 118 4), (0, O 118 5), (0, O 118 6)], fun _ => 0), (1, 40, [], A 119), (1, 40, [], A 120), (1, 40, [], A 121), (1, 40, [], A 122), (0, 3, [(4, 124), (4, 131), (4, 139), (0, O 123 3)], fun _ => 0), (0, 2, [(4, 125), (4, 126), (4, 127), (4, 128), (4, 129), (4, 130), (0, O 124 6), (0, O 124 7)], fun _ => 0), (1, 3, [], A 125), (2, 30, [], A 126), (1, 10, [], A 127), (1, 10, [], A 128), (1, 10, [], A 129), (1, 32, [], A 130), (0, 4, [(4, 5), (4, 132), (4, 133), (4, 134), (4, 135), (4, 136), (4, 137), (4, 138), (0, O 131 8), (0, O 131 9), (0, O 131 10)], fun _ => 0), (1, 10, [], A 132), (1, 10, [], A 133), (1, 4, [], A 134), (1, 4, [], A 135), (1, 4, [], A 136), (1, 32, [], A 137), (1, 16, [], A 138), (0, 7, [(4, 140), (4, 141), (4, 142), (4, 143), (0, O 139 4), (0, O 139 5), (0, O 139 6)], fun _ => 0), (1, 40, [], A 140), (1, 40, [], A 141), (1, 40, [], A 142), (1, 40, [], A 143), (0, 0, [(4, 145), (4, 146), (4, 147), (4, 148), (0, O 144 4), (0, O 144 5)], fun _ => 0), (1, 40, [], A 145), (1, 40, [], A 146), (1, 40, [], A 147), (1, 4, [], A 148), (0, 7, [(4, 150), (4, 151), (4, 152), (4, 153), (0, O 149 4), (0, O 149 5), (0, O 149 6)], fun _ => 0), (1, 40, [], A 150), (1, 40, [], A 151), (1, 40, [], A 152), (1, 40, [], A 153), (0, 7, [(4, 155), (4, 156), (4, 157), (4, 158), (0, O 154 4), (0, O 154 5), (0, O 154 6)], fun _ => 0), (1, 40, [], A 155), (1, 40, [], A 156), (1, 40, [], A 157), (1, 40, [], A 158), (0, 5, [(4, 5), (4, 19), (4, 160), (4, 161), (4, 162), (4, 163), (0, O 159 6)], fun _ => 0), (2, 9, [], A 160), (1, 10, [], A 161), (1, 4, [], A 162), (1, 4, [], A 163), (0, 1, [(2, O 164 0), (2, O 164 1)], fun _ => 0), (0, 1, [(2, O 165 0), (2, O 165 1)], fun _ => 0), (0, 8, [(4, 167), (0, O 166 1)], fun _ => 0), (1, 80, [], A 167)]
set_option maxRecDepth 100000 in
set_option maxHeartbeats 4000000 in
theorem ce_R_T : cc_E cx_R cx_T [2, 3] := ⟨fun O A => ⟨rfl, rfl, trivial⟩, fun _ _ _ _ => rfl, fun _ _ => rfl, fun _ _ => rfl⟩
set_option maxRecDepth 100000 in
set_option maxHeartbeats 4000000 in
theorem ce_HR_R : cc_E cx_HR cx_R [7, 8, 9, 10] := ⟨fun O A => ⟨rfl, rfl, rfl, rfl, trivial⟩, fun _ _ _ _ => rfl, fun _ _ => rfl, fun _ _ => rfl⟩
set_option maxRecDepth 100000 in
set_option maxHeartbeats 4000000 in
theorem ce_HR_H : cc_E cx_HR cx_H [0, 1, 2, 3, 4, 5, 6] := ⟨fun O A => ⟨rfl, rfl, rfl, rfl, rfl, rfl, rfl, trivial⟩, fun _ _ _ _ => rfl, fun _ _ => rfl, fun _ _ => rfl⟩
set_option maxRecDepth 100000 in
set_option maxHeartbeats 4000000 in
theorem ce_HT_H : cc_E cx_HT cx_H [0, 1, 2, 3, 4, 5, 6] := ⟨fun O A => ⟨rfl, rfl, rfl, rfl, rfl, rfl, rfl, trivial⟩, fun _ _ _ _ => rfl, fun _ _ => rfl, fun _ _ => rfl⟩
set_option maxRecDepth 100000 in
set_option maxHeartbeats 4000000 in
theorem ce_HT_T : cc_E cx_HT cx_T [7, 8] := ⟨fun O A => ⟨rfl, rfl, trivial⟩, fun _ _ _ _ => rfl, fun _ _ => rfl, fun _ _ => rfl⟩
set_option maxRecDepth 100000 in
set_option maxHeartbeats 4000000 in
theorem ce_L_H : cc_E cx_L cx_H [8, 9, 10, 11, 12, 13, 14] := ⟨fun O A => ⟨rfl, rfl, rfl, rfl, rfl, rfl, rfl, trivial⟩, fun _ _ _ _ => rfl, fun _ _ => rfl, fun _ _ => rfl⟩
set_option maxRecDepth 100000 in
set_option maxHeartbeats 4000000 in
theorem ce_BHR_R : cc_E cx_BHR cx_R [12, 13, 14, 15] := ⟨fun O A => ⟨rfl, rfl, rfl, rfl, trivial⟩, fun _ _ _ _ => rfl, fun _ _ => rfl, fun _ _ => rfl⟩
set_option maxRecDepth 100000 in
set_option maxHeartbeats 4000000 in
theorem ce_BHR_H : cc_E cx_BHR cx_H [5, 6, 7, 8, 9, 10, 11] := ⟨fun O A => ⟨rfl, rfl, rfl, rfl, rfl, rfl, rfl, trivial⟩, fun _ _ _ _ => rfl, fun _ _ => rfl, fun _ _ => rfl⟩
set_option maxRecDepth 100000 in
set_option maxHeartbeats 4000000 in
theorem ce_BHR_HR : cc_E cx_BHR cx_HR [5, 6, 7, 8, 9, 10, 11, 12, 13, 14, 15] := ⟨fun O A => ⟨rfl, rfl, rfl, rfl, rfl, rfl, rfl, rfl, rfl, rfl, rfl, trivial⟩, fun _ _ _ _ => rfl, fun _ _ => rfl, fun _ _ => rfl⟩
set_option maxRecDepth 100000 in
set_option maxHeartbeats 4000000 in
theorem ce_BL_L : cc_E cx_BL cx_L [5, 6, 7, 8, 9, 10, 11, 12, 13, 14, 15, 16, 17, 18, 19] := ⟨fun O A => ⟨rfl, rfl, rfl, rfl, rfl, rfl, rfl, rfl, rfl, rfl, rfl, rfl, rfl, rfl, rfl, trivial⟩, fun _ _ _ _ => rfl, fun _ _ => rfl, fun _ _ => rfl⟩
set_option maxRecDepth 100000 in
set_option maxHeartbeats 4000000 in
theorem ce_BL_H : cc_E cx_BL cx_H [13, 14, 15, 16, 17, 18, 19] := ⟨fun O A => ⟨rfl, rfl, rfl, rfl, rfl, rfl, rfl, trivial⟩, fun _ _ _ _ => rfl, fun _ _ => rfl, fun _ _ => rfl⟩
set_option maxRecDepth 100000 in
set_option maxHeartbeats 4000000 in
theorem ce_BHR_BR : cc_E cx_BHR cx_BR [0, 1, 2, 3, 4, 12, 13, 14, 15] := ⟨fun O A => ⟨rfl, rfl, rfl, rfl, rfl, rfl, rfl, rfl, rfl, trivial⟩, fun _ _ _ _ => rfl, fun _ _ => rfl, fun _ _ => rfl⟩
set_option maxRecDepth 100000 in
set_option maxHeartbeats 4000000 in
theorem ce_BR_R : cc_E cx_BR cx_R [5, 6, 7, 8] := ⟨fun O A => ⟨rfl, rfl, rfl, rfl, trivial⟩, fun _ _ _ _ => rfl, fun _ _ => rfl, fun _ _ => rfl⟩
set_option maxRecDepth 100000 in
set_option maxHeartbeats 4000000 in
theorem ce_SHR_R : cc_E cx_SHR cx_R [12, 13, 14, 15] := ⟨fun O A => ⟨rfl, rfl, rfl, rfl, trivial⟩, fun _ _ _ _ => rfl, fun _ _ => rfl, fun _ _ => rfl⟩
set_option maxRecDepth 100000 in
set_option maxHeartbeats 4000000 in
theorem ce_SHR_HR : cc_E cx_SHR cx_HR [5, 6, 7, 8, 9, 10, 11, 12, 13, 14, 15] := ⟨fun O A => ⟨rfl, rfl, rfl, rfl, rfl, rfl, rfl, rfl, rfl, rfl, rfl, trivial⟩, fun _ _ _ _ => rfl, fun _ _ => rfl, fun _ _ => rfl⟩
set_option maxRecDepth 100000 in
set_option maxHeartbeats 4000000 in
theorem ce_SHR_S : cc_E cx_SHR cx_S [0, 1, 2, 3, 4] := ⟨fun O A => ⟨rfl, rfl, rfl, rfl, rfl, trivial⟩, fun _ _ _ _ => rfl, fun _ _ => rfl, fun _ _ => rfl⟩
set_option maxRecDepth 100000 in
set_option maxHeartbeats 4000000 in
theorem ce_SL_S : cc_E cx_SL cx_S [0, 1, 2, 3, 4] := ⟨fun O A => ⟨rfl, rfl, rfl, rfl, rfl, trivial⟩, fun _ _ _ _ => rfl, fun _ _ => rfl, fun _ _ => rfl⟩
set_option maxRecDepth 100000 in
set_option maxHeartbeats 4000000 in
theorem ce_SL_L : cc_E cx_SL cx_L [5, 6, 7, 8, 9, 10, 11, 12, 13, 14, 15, 16, 17, 18, 19] := ⟨fun O A => ⟨rfl, rfl, rfl, rfl, rfl, rfl, rfl, rfl, rfl, rfl, rfl, rfl, rfl, rfl, rfl, trivial⟩, fun _ _ _ _ => rfl, fun _ _ => rfl, fun _ _ => rfl⟩
set_option maxRecDepth 100000 in
set_option maxHeartbeats 4000000 in
theorem ce_SL_H : cc_E cx_SL cx_H [13, 14, 15, 16, 17, 18, 19] := ⟨fun O A => ⟨rfl, rfl, rfl, rfl, rfl, rfl, rfl, trivial⟩, fun _ _ _ _ => rfl, fun _ _ => rfl, fun _ _ => rfl⟩
set_option maxRecDepth 100000 in
set_option maxHeartbeats 4000000 in
theorem ce_SHR_SR : cc_E cx_SHR cx_SR [0, 1, 2, 3, 4, 12, 13, 14, 15] := ⟨fun O A => ⟨rfl, rfl, rfl, rfl, rfl, rfl, rfl, rfl, rfl, trivial⟩, fun _ _ _ _ => rfl, fun _ _ => rfl, fun _ _ => rfl⟩
set_option maxRecDepth 100000 in
set_option maxHeartbeats 4000000 in
theorem ce_SR_R : cc_E cx_SR cx_R [5, 6, 7, 8] := ⟨fun O A => ⟨rfl, rfl, rfl, rfl, trivial⟩, fun _ _ _ _ => rfl, fun _ _ => rfl, fun _ _ => rfl⟩
set_option maxRecDepth 100000 in
set_option maxHeartbeats 4000000 in
theorem ce_SR_S : cc_E cx_SR cx_S [0, 1, 2, 3, 4] := ⟨fun O A => ⟨rfl, rfl, rfl, rfl, rfl, trivial⟩, fun _ _ _ _ => rfl, fun _ _ => rfl, fun _ _ => rfl⟩
set_option maxRecDepth 100000 in
set_option maxHeartbeats 4000000 in
theorem ce_Lo_L : cc_E cx_Lo cx_L [5, 6, 7, 8, 9, 10, 11, 12, 13, 14, 15, 16, 17, 18, 19] := ⟨fun O A => ⟨rfl, rfl, rfl, rfl, rfl, rfl, rfl, rfl, rfl, rfl, rfl, rfl, rfl, rfl, rfl, trivial⟩, fun _ _ _ _ => rfl, fun _ _ => rfl, fun _ _ => rfl⟩
set_option maxRecDepth 100000 in
set_option maxHeartbeats 4000000 in
theorem ce_Lo_H : cc_E cx_Lo cx_H [13, 14, 15, 16, 17, 18, 19] := ⟨fun O A => ⟨rfl, rfl, rfl, rfl, rfl, rfl, rfl, trivial⟩, fun _ _ _ _ => rfl, fun _ _ => rfl, fun _ _ => rfl⟩
set_option maxRecDepth 100000 in
set_option maxHeartbeats 4000000 in
theorem ce_LoF_Lo : cc_E cx_LoF cx_Lo [0, 1, 2, 3, 4, 5, 6, 7, 8, 9, 10, 11, 12, 13, 14, 15, 16, 17, 18, 19] := ⟨fun O A => ⟨rfl, rfl, rfl, rfl, rfl, rfl, rfl, rfl, rfl, rfl, rfl, rfl, rfl, rfl, rfl, rfl, rfl, rfl, rfl, rfl, trivial⟩, fun _ _ _ _ => rfl, fun _ _ => rfl, fun _ _ => rfl⟩
set_option maxRecDepth 100000 in
set_option maxHeartbeats 4000000 in
theorem ce_LoF_L : cc_E cx_LoF cx_L [5, 6, 7, 8, 9, 10, 11, 12, 13, 14, 15, 16, 17, 18, 19] := ⟨fun O A => ⟨rfl, rfl, rfl, rfl, rfl, rfl, rfl, rfl, rfl, rfl, rfl, rfl, rfl, rfl, rfl, trivial⟩, fun _ _ _ _ => rfl, fun _ _ => rfl, fun _ _ => rfl⟩
set_option maxRecDepth 100000 in
set_option maxHeartbeats 4000000 in
theorem ce_LoF_H : cc_E cx_LoF cx_H [13, 14, 15, 16, 17, 18, 19] := ⟨fun O A => ⟨rfl, rfl, rfl, rfl, rfl, rfl, rfl, trivial⟩, fun _ _ _ _ => rfl, fun _ _ => rfl, fun _ _ => rfl⟩
set_option maxRecDepth 100000 in
set_option maxHeartbeats 4000000 in
theorem ce_LoF_F : cc_E cx_LoF cx_F [20] := ⟨fun O A => ⟨rfl, trivial⟩, fun _ _ _ _ => rfl, fun _ _ => rfl, fun _ _ => rfl⟩
set_option maxRecDepth 100000 in
set_option maxHeartbeats 4000000 in
theorem ce_LoT_H : cc_E cx_LoT cx_H [13, 14, 15, 16, 17, 18, 19] := ⟨fun O A => ⟨rfl, rfl, rfl, rfl, rfl, rfl, rfl, trivial⟩, fun _ _ _ _ => rfl, fun _ _ => rfl, fun _ _ => rfl⟩
set_option maxRecDepth 100000 in
set_option maxHeartbeats 4000000 in
theorem ce_LoT_T : cc_E cx_LoT cx_T [20, 21] := ⟨fun O A => ⟨rfl, rfl, trivial⟩, fun _ _ _ _ => rfl, fun _ _ => rfl, fun _ _ => rfl⟩
set_option maxRecDepth 100000 in
set_option maxHeartbeats 4000000 in
theorem ce_LoTF_L : cc_E cx_LoTF cx_L [5, 6, 7, 8, 9, 10, 11, 12, 13, 14, 15, 16, 17, 18, 19] := ⟨fun O A => ⟨rfl, rfl, rfl, rfl, rfl, rfl, rfl, rfl, rfl, rfl, rfl, rfl, rfl, rfl, rfl, trivial⟩, fun _ _ _ _ => rfl, fun _ _ => rfl, fun _ _ => rfl⟩
set_option maxRecDepth 100000 in
set_option maxHeartbeats 4000000 in
theorem ce_LoTF_H : cc_E cx_LoTF cx_H [13, 14, 15, 16, 17, 18, 19] := ⟨fun O A => ⟨rfl, rfl, rfl, rfl, rfl, rfl, rfl, trivial⟩, fun _ _ _ _ => rfl, fun _ _ => rfl, fun _ _ => rfl⟩
set_option maxRecDepth 100000 in
set_option maxHeartbeats 4000000 in
theorem ce_LoTF_T : cc_E cx_LoTF cx_T [20, 21] := ⟨fun O A => ⟨rfl, rfl, trivial⟩, fun _ _ _ _ => rfl, fun _ _ => rfl, fun _ _ => rfl⟩
set_option maxRecDepth 100000 in
set_option maxHeartbeats 4000000 in
theorem ce_LoTF_F : cc_E cx_LoTF cx_F [22] := ⟨fun O A => ⟨rfl, trivial⟩, fun _ _ _ _ => rfl, fun _ _ => rfl, fun _ _ => rfl⟩
set_option maxRecDepth 100000 in
set_option maxHeartbeats 4000000 in
theorem ce_U_LLk0 : cc_E cx_U cx_LL [2, 3, 4, 5, 6, 7, 8, 9, 66, 67, 68, 69, 70, 71, 72, 73, 74, 75, 76, 77, 78, 79, 80] := ⟨fun O A => ⟨rfl, rfl, rfl, rfl, rfl, rfl, rfl, rfl, rfl, rfl, rfl, rfl, rfl, rfl, rfl, rfl, rfl, rfl, rfl, rfl, rfl, rfl, rfl, trivial⟩, fun _ _ _ _ => rfl, fun _ _ => rfl, fun _ _ => rfl⟩
set_option maxRecDepth 100000 in
set_option maxHeartbeats 4000000 in
theorem ce_U_LLg0 : cc_E cx_U cx_LL [66, 67, 68, 69, 70, 71, 72, 73, 2, 3, 4, 5, 6, 7, 8, 9, 74, 75, 76, 77, 78, 79, 80] := ⟨fun O A => ⟨rfl, rfl, rfl, rfl, rfl, rfl, rfl, rfl, rfl, rfl, rfl, rfl, rfl, rfl, rfl, rfl, rfl, rfl, rfl, rfl, rfl, rfl, rfl, trivial⟩, fun _ _ _ _ => rfl, fun _ _ => rfl, fun _ _ => rfl⟩
set_option maxRecDepth 100000 in
set_option maxHeartbeats 4000000 in
theorem ce_U_LLk1 : cc_E cx_U cx_LL [10, 11, 12, 13, 14, 15, 16, 17, 66, 67, 68, 69, 70, 71, 72, 73, 74, 75, 76, 77, 78, 79, 80] := ⟨fun O A => ⟨rfl, rfl, rfl, rfl, rfl, rfl, rfl, rfl, rfl, rfl, rfl, rfl, rfl, rfl, rfl, rfl, rfl, rfl, rfl, rfl, rfl, rfl, rfl, trivial⟩, fun _ _ _ _ => rfl, fun _ _ => rfl, fun _ _ => rfl⟩
set_option maxRecDepth 100000 in
set_option maxHeartbeats 4000000 in
theorem ce_U_LLg1 : cc_E cx_U cx_LL [66, 67, 68, 69, 70, 71, 72, 73, 10, 11, 12, 13, 14, 15, 16, 17, 74, 75, 76, 77, 78, 79, 80] := ⟨fun O A => ⟨rfl, rfl, rfl, rfl, rfl, rfl, rfl, rfl, rfl, rfl, rfl, rfl, rfl, rfl, rfl, rfl, rfl, rfl, rfl, rfl, rfl, rfl, rfl, trivial⟩, fun _ _ _ _ => rfl, fun _ _ => rfl, fun _ _ => rfl⟩
set_option maxRecDepth 100000 in
set_option maxHeartbeats 4000000 in
theorem ce_U_LLk2 : cc_E cx_U cx_LL [18, 19, 20, 21, 22, 23, 24, 25, 66, 67, 68, 69, 70, 71, 72, 73, 74, 75, 76, 77, 78, 79, 80] := ⟨fun O A => ⟨rfl, rfl, rfl, rfl, rfl, rfl, rfl, rfl, rfl, rfl, rfl, rfl, rfl, rfl, rfl, rfl, rfl, rfl, rfl, rfl, rfl, rfl, rfl, trivial⟩, fun _ _ _ _ => rfl, fun _ _ => rfl, fun _ _ => rfl⟩
set_option maxRecDepth 100000 in
set_option maxHeartbeats 4000000 in
theorem ce_U_LLg2 : cc_E cx_U cx_LL [66, 67, 68, 69, 70, 71, 72, 73, 18, 19, 20, 21, 22, 23, 24, 25, 74, 75, 76, 77, 78, 79, 80] := ⟨fun O A => ⟨rfl, rfl, rfl, rfl, rfl, rfl, rfl, rfl, rfl, rfl, rfl, rfl, rfl, rfl, rfl, rfl, rfl, rfl, rfl, rfl, rfl, rfl, rfl, trivial⟩, fun _ _ _ _ => rfl, fun _ _ => rfl, fun _ _ => rfl⟩
set_option maxRecDepth 100000 in
set_option maxHeartbeats 4000000 in
theorem ce_U_LLk3 : cc_E cx_U cx_LL [26, 27, 28, 29, 30, 31, 32, 33, 66, 67, 68, 69, 70, 71, 72, 73, 74, 75, 76, 77, 78, 79, 80] := ⟨fun O A => ⟨rfl, rfl, rfl, rfl, rfl, rfl, rfl, rfl, rfl, rfl, rfl, rfl, rfl, rfl, rfl, rfl, rfl, rfl, rfl, rfl, rfl, rfl, rfl, trivial⟩, fun _ _ _ _ => rfl, fun _ _ => rfl, fun _ _ => rfl⟩
set_option maxRecDepth 100000 in
set_option maxHeartbeats 4000000 in
theorem ce_U_LLg3 : cc_E cx_U cx_LL [66, 67, 68, 69, 70, 71, 72, 73, 26, 27, 28, 29, 30, 31, 32, 33, 74, 75, 76, 77, 78, 79, 80] := ⟨fun O A => ⟨rfl, rfl, rfl, rfl, rfl, rfl, rfl, rfl, rfl, rfl, rfl, rfl, rfl, rfl, rfl, rfl, rfl, rfl, rfl, rfl, rfl, rfl, rfl, trivial⟩, fun _ _ _ _ => rfl, fun _ _ => rfl, fun _ _ => rfl⟩
set_option maxRecDepth 100000 in
set_option maxHeartbeats 4000000 in
theorem ce_U_LLk4 : cc_E cx_U cx_LL [34, 35, 36, 37, 38, 39, 40, 41, 66, 67, 68, 69, 70, 71, 72, 73, 74, 75, 76, 77, 78, 79, 80] := ⟨fun O A => ⟨rfl, rfl, rfl, rfl, rfl, rfl, rfl, rfl, rfl, rfl, rfl, rfl, rfl, rfl, rfl, rfl, rfl, rfl, rfl, rfl, rfl, rfl, rfl, trivial⟩, fun _ _ _ _ => rfl, fun _ _ => rfl, fun _ _ => rfl⟩
set_option maxRecDepth 100000 in
set_option maxHeartbeats 4000000 in
theorem ce_U_LLg4 : cc_E cx_U cx_LL [66, 67, 68, 69, 70, 71, 72, 73, 34, 35, 36, 37, 38, 39, 40, 41, 74, 75, 76, 77, 78, 79, 80] := ⟨fun O A => ⟨rfl, rfl, rfl, rfl, rfl, rfl, rfl, rfl, rfl, rfl, rfl, rfl, rfl, rfl, rfl, rfl, rfl, rfl, rfl, rfl, rfl, rfl, rfl, trivial⟩, fun _ _ _ _ => rfl, fun _ _ => rfl, fun _ _ => rfl⟩
set_option maxRecDepth 100000 in
set_option maxHeartbeats 4000000 in
theorem ce_U_LLk5 : cc_E cx_U cx_LL [42, 43, 44, 45, 46, 47, 48, 49, 66, 67, 68, 69, 70, 71, 72, 73, 74, 75, 76, 77, 78, 79, 80] := ⟨fun O A => ⟨rfl, rfl, rfl, rfl, rfl, rfl, rfl, rfl, rfl, rfl, rfl, rfl, rfl, rfl, rfl, rfl, rfl, rfl, rfl, rfl, rfl, rfl, rfl, trivial⟩, fun _ _ _ _ => rfl, fun _ _ => rfl, fun _ _ => rfl⟩
set_option maxRecDepth 100000 in
set_option maxHeartbeats 4000000 in
theorem ce_U_LLg5 : cc_E cx_U cx_LL [66, 67, 68, 69, 70, 71, 72, 73, 42, 43, 44, 45, 46, 47, 48, 49, 74, 75, 76, 77, 78, 79, 80] := ⟨fun O A => ⟨rfl, rfl, rfl, rfl, rfl, rfl, rfl, rfl, rfl, rfl, rfl, rfl, rfl, rfl, rfl, rfl, rfl, rfl, rfl, rfl, rfl, rfl, rfl, trivial⟩, fun _ _ _ _ => rfl, fun _ _ => rfl, fun _ _ => rfl⟩
set_option maxRecDepth 100000 in
set_option maxHeartbeats 4000000 in
theorem ce_U_LLk6 : cc_E cx_U cx_LL [50, 51, 52, 53, 54, 55, 56, 57, 66, 67, 68, 69, 70, 71, 72, 73, 74, 75, 76, 77, 78, 79, 80] := ⟨fun O A => ⟨rfl, rfl, rfl, rfl, rfl, rfl, rfl, rfl, rfl, rfl, rfl, rfl, rfl, rfl, rfl, rfl, rfl, rfl, rfl, rfl, rfl, rfl, rfl, trivial⟩, fun _ _ _ _ => rfl, fun _ _ => rfl, fun _ _ => rfl⟩
set_option maxRecDepth 100000 in
set_option maxHeartbeats 4000000 in
theorem ce_U_LLg6 : cc_E cx_U cx_LL [66, 67, 68, 69, 70, 71, 72, 73, 50, 51, 52, 53, 54, 55, 56, 57, 74, 75, 76, 77, 78, 79, 80] := ⟨fun O A => ⟨rfl, rfl, rfl, rfl, rfl, rfl, rfl, rfl, rfl, rfl, rfl, rfl, rfl, rfl, rfl, rfl, rfl, rfl, rfl, rfl, rfl, rfl, rfl, trivial⟩, fun _ _ _ _ => rfl, fun _ _ => rfl, fun _ _ => rfl⟩
set_option maxRecDepth 100000 in
set_option maxHeartbeats 4000000 in
theorem ce_U_LLk7 : cc_E cx_U cx_LL [58, 59, 60, 61, 62, 63, 64, 65, 66, 67, 68, 69, 70, 71, 72, 73, 74, 75, 76, 77, 78, 79, 80] := ⟨fun O A => ⟨rfl, rfl, rfl, rfl, rfl, rfl, rfl, rfl, rfl, rfl, rfl, rfl, rfl, rfl, rfl, rfl, rfl, rfl, rfl, rfl, rfl, rfl, rfl, trivial⟩, fun _ _ _ _ => rfl, fun _ _ => rfl, fun _ _ => rfl⟩
set_option maxRecDepth 100000 in
set_option maxHeartbeats 4000000 in
theorem ce_U_LLg7 : cc_E cx_U cx_LL [66, 67, 68, 69, 70, 71, 72, 73, 58, 59, 60, 61, 62, 63, 64, 65, 74, 75, 76, 77, 78, 79, 80] := ⟨fun O A => ⟨rfl, rfl, rfl, rfl, rfl, rfl, rfl, rfl, rfl, rfl, rfl, rfl, rfl, rfl, rfl, rfl, rfl, rfl, rfl, rfl, rfl, rfl, rfl, trivial⟩, fun _ _ _ _ => rfl, fun _ _ => rfl, fun _ _ => rfl⟩

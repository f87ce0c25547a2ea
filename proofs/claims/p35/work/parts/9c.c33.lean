/-! THE LAW, 1: its world; calls that throw, in it -/
def cx_M : cc_W := fun O A => [(0, 11, [(0, O 0 0), (4, 1), (0, O 0 2), (0, O 0 3), (0, O 0 4), (0, O 0 5), (0, O 0 6), (0, O 0 7), (0, O 0 8), (0, O 0 9), (0, O 0 10), (0, O 0 11), (2, O 0 12), (0, O 0 13), (4, 2), (4, 3), (4, 4), (4, 5), (4, 6), (4, 7), (4, 8), (4, 9), (4, 10), (0, O 0 23), (0, O 0 24), (0, O 0 25), (0, O 0 26), (0, O 0 27), (0, O 0 28), (4, 11), (4, 12), (0, O 0 31), (0, O 0 32), (2, O 0 33), (2, O 0 34), (0, O 0 35), (4, 13), (0, O 0 37), (4, 14), (4, 15), (0, O 0 40), (0, O 0 41), (4, 16), (0, O 0 43), (0, O 0 44), (0, O 0 45), (0, O 0 46)], fun _ => 0), (1, 940, [], A 1), (1, 392, [], A 2), (1, 67, [], A 3), (1, 784, [], A 4), (1, 664, [], A 5), (1, 83, [], A 6), (2, 22, [], A 7), (2, 22, [], A 8), (2, 44, [], A 9), (4, 2, [], A 10), (1, 4, [], A 11), (1, 4, [], A 12), (1, 96, [], A 13), (1, 120, [], A 14), (1, 4, [], A 15), (1, 240, [], A 16)]
def cp_M : List cc_P := [(0, 11, [(0, 0), (4, 1), (0, 0), (0, 0), (0, 0), (0, 0), (0, 0), (0, 0), (0, 0), (0, 0), (0, 0), (0, 0), (2, 0), (0, 0), (4, 2), (4, 3), (4, 4), (4, 5), (4, 6), (4, 7), (4, 8), (4, 9), (4, 10), (0, 0), (0, 0), (0, 0), (0, 0), (0, 0), (0, 0), (4, 11), (4, 12), (0, 0), (0, 0), (2, 0), (2, 0), (0, 0), (4, 13), (0, 0), (4, 14), (4, 15), (0, 0), (0, 0), (4, 16), (0, 0), (0, 0), (0, 0), (0, 0)]), (1, 940, []), (1, 392, []), (1, 67, []), (1, 784, []), (1, 664, []), (1, 83, []), (2, 22, []), (2, 22, []), (2, 44, []), (4, 2, []), (1, 4, []), (1, 4, []), (1, 96, []), (1, 120, []), (1, 4, []), (1, 240, [])]
set_option maxRecDepth 100000 in
set_option maxHeartbeats 4000000 in
theorem cq_M (O A : Nat → Nat → Int) : cx_M O A = cc_mk cp_M 0 O A := rfl
def cx_LW : cc_W := fun O A => [(0, 10, [(4, 1), (4, 3), (4, 5), (4, 12), (4, 19), (4, 27), (4, 35), (4, 101), (4, 144), (4, 149), (4, 154), (4, 159), (4, 164), (4, 165), (4, 166), (0, O 0 15), (0, O 0 16), (0, O 0 17)], fun _ => 0), (0, 8, [(4, 2), (0, O 1 1)], fun _ => 0), (1, 940, [], A 2), (0, 6, [(4, 1), (4, 4), (0, O 3 2), (0, O 3 3), (0, O 3 4), (0, O 3 5), (0, O 3 6), (2, O 3 7), (0, O 3 8), (0, O 3 9), (0, O 3 10)], fun _ => 0), (2, 24, [], A 4), (0, 2, [(4, 6), (4, 7), (4, 8), (4, 9), (4, 10), (4, 11), (0, O 5 6), (0, O 5 7)], fun _ => 0), (1, 3, [], A 6), (2, 30, [], A 7), (1, 10, [], A 8), (1, 10, [], A 9), (1, 10, [], A 10), (1, 32, [], A 11), (0, 2, [(4, 13), (4, 14), (4, 15), (4, 16), (4, 17), (4, 18), (0, O 12 6), (0, O 12 7)], fun _ => 0), (1, 3, [], A 13), (2, 30, [], A 14), (1, 10, [], A 15), (1, 10, [], A 16), (1, 10, [], A 17), (1, 32, [], A 18), (0, 4, [(4, 5), (4, 20), (4, 21), (4, 22), (4, 23), (4, 24), (4, 25), (4, 26), (0, O 19 8), (0, O 19 9), (0, O 19 10)], fun _ => 0), (1, 10, [], A 20), (1, 10, [], A 21), (1, 4, [], A 22), (1, 4, [], A 23), (1, 4, [], A 24), (1, 32, [], A 25), (1, 16, [], A 26), (0, 4, [(4, 5), (4, 28), (4, 29), (4, 30), (4, 31), (4, 32), (4, 33), (4, 34), (0, O 27 8), (0, O 27 9), (0, O 27 10)], fun _ => 0), (1, 10, [], A 28), (1, 10, [], A 29), (1, 4, [], A 30), (1, 4, [], A 31), (1, 4, [], A 32), (1, 32, [], A 33), (1, 16, [], A 34), (0, 9, [(4, 36), (0, O 35 1), (0, O 35 2)], fun _ => 0), (3, 0, [(4, 37), (4, 45), (4, 53), (4, 61), (4, 69), (4, 77), (4, 85), (4, 93)], fun _ => 0), (0, 4, [(4, 5), (4, 38), (4, 39), (4, 40), (4, 41), (4, 42), (4, 43), (4, 44), (0, O 37 8), (0, O 37 9), (0, O 37 10)], fun _ => 0), (1, 10, [], A 38), (1, 10, [], A 39), (1, 4, [], A 40), (1, 4, [], A 41), (1, 4, [], A 42), (1, 32, [], A 43), (1, 16, [], A 44), (0, 4, [(4, 5), (4, 46), (4, 47), (4, 48), (4, 49), (4, 50), (4, 51), (4, 52), (0, O 45 8), (0, O 45 9), (0, O 45 10)], fun _ => 0), (1, 10, [], A 46), (1, 10, [], A 47), (1, 4, [], A 48), (1, 4, [], A 49), (1, 4, [], A 50), (1, 32, [], A 51), (1, 16, [], A 52), (0, 4, [(4, 5), (4, 54), (4, 55), (4, 56), (4, 57), (4, 58), (4, 59), (4, 60), (0, O 53 8), (0, O 53 9), (0, O 53 10)], fun _ => 0), (1, 10, [], A 54), (1, 10, [], A 55), (1, 4, [], A 56), (1, 4, [], A 57), (1, 4, [], A 58), (1, 32, [], A 59), (1, 16, [], A 60), (0, 4, [(4, 5), (4, 62), (4, 63), (4, 64), (4, 65), (4, 66), (4, 67), (4, 68), (0, O 61 8), (0, O 61 9), (0, O 61 10)], fun _ => 0), (1, 10, [], A 62), (1, 10, [], A 63), (1, 4, [], A 64), (1, 4, [], A 65), (1, 4, [], A 66), (1, 32, [], A 67), (1, 16, [], A 68), (0, 4, [(4, 5), (4, 70), (4, 71), (4, 72), (4, 73), (4, 74), (4, 75), (4, 76), (0, O 69 8), (0, O 69 9), (0, O 69 10)], fun _ => 0), (1, 10, [], A 70), (1, 10, [], A 71), (1, 4, [], A 72), (1, 4, [], A 73), (1, 4, [], A 74), (1, 32, [], A 75), (1, 16, [], A 76), (0, 4, [(4, 5), (4, 78), (4, 79), (4, 80), (4, 81), (4, 82), (4, 83), (4, 84), (0, O 77 8), (0, O 77 9), (0, O 77 10)], fun _ => 0), (1, 10, [], A 78), (1, 10, [], A 79), (1, 4, [], A 80), (1, 4, [], A 81), (1, 4, [], A 82), (1, 32, [], A 83), (1, 16, [], A 84), (0, 4, [(4, 5), (4, 86), (4, 87), (4, 88), (4, 89), (4, 90), (4, 91), (4, 92), (0, O 85 8), (0, O 85 9), (0, O 85 10)], fun _ => 0), (1, 10, [], A 86), (1, 10, [], A 87), (1, 4, [], A 88), (1, 4, [], A 89), (1, 4, [], A 90), (1, 32, [], A 91), (1, 16, [], A 92), (0, 4, [(4, 5), (4, 94), (4, 95), (4, 96), (4, 97), (4, 98), (4, 99), (4, 100), (0, O 93 8), (0, O 93 9), (0, O 93 10)], fun _ => 0), (1, 10, [], A 94), (1, 10, [], A 95), (1, 4, [], A 96), (1, 4, [], A 97), (1, 4, [], A 98), (1, 32, [], A 99), (1, 16, [], A 100), (3, 3, [(4, 102), (4, 123)], fun _ => 0), (0, 3, [(4, 103), (4, 110), (4, 118), (0, O 102 3)], fun _ => 0), (0, 2, [(4, 104), (4, 105), (4, 106), (4, 107), (4, 108), (4, 109), (0, O 103 6), (0, O 103 7)], fun _ => 0), (1, 3, [], A 104), (2, 30, [], A 105), (1, 10, [], A 106), (1, 10, [], A 107), (1, 10, [], A 108), (1, 32, [], A 109), (0, 4, [(4, 5), (4, 111), (4, 112), (4, 113), (4, 114), (4, 115), (4, 116), (4, 117), (0, O 110 8), (0, O 110 9), (0, O 110 10)], fun _ => 0), (1, 10, [], A 111), (1, 10, [], A 112), (1, 4, [], A 113), (1, 4, [], A 114), (1, 4, [], A 115), (1, 32, [], A 116), (1, 16, [], A 117), (0, 7, [(4, 119), (4, 120), (4, 121), (4, 122), (0, O 118 4), (0, O 118 5), (0, O 118 6)], fun _ => 0), (1, 40, [], A 119), (1, 40, [], A 120), (1, 40, [], A 121), (1, 40, [], A 122), (0, 3, [(4, 124), (4, 131), (4, 139), (0, O 123 3)], fun _ => 0), (0, 2, [(4, 125), (4, 126), (4, 127), (4, 128), (4, 129), (4, 130), (0, O 124 6), (0, O 124 7)], fun _ => 0), (1, 3, [], A 125), (2, 30, [], A 126), (1, 10, [], A 127), (1, 10, [], A 128), (1, 10, [], A 129), (1, 32, [], A 130), (0, 4, [(4, 5), (4, 132), (4, 133), (4, 134), (4, 135), (4, 136), (4, 137), (4, 138), (0, O 131 8), (0, O 131 9), (0, O 131 10)], fun _ => 0), (1, 10, [], A 132), (1, 10, [], A 133), (1, 4, [], A 134), (1, 4, [], A 135), (1, 4, [], A 136), (1, 32, [], A 137), (1, 16, [], A 138), (0, 7, [(4, 140), (4, 141), (4, 142), (4, 143), (0, O 139 4), (0, O 139 5), (0, O 139 6)], fun _ => 0), (1, 40, [], A 140), (1, 40, [], A 141), (1, 40, [], A 142), (1, 40, [], A 143), (0, 0, [(4, 145), (4, 146), (4, 147), (4, 148), (0, O 144 4), (0, O 144 5)], fun _ => 0), (1, 40, [], A 145), (1, 40, [], A 146), (1, 40, [], A 147), (1, 4, [], A 148), (0, 7, [(4, 150), (4, 151), (4, 152), (4, 153), (0, O 149 4), (0, O 149 5), (0, O 149 6)], fun _ => 0), (1, 40, [], A 150), (1, 40, [], A 151), (1, 40, [], A 152), (1, 40, [], A 153), (0, 7, [(4, 155), (4, 156), (4, 157), (4, 158), (0, O 154 4), (0, O 154 5), (0, O 154 6)], fun _ => 0), (1, 40, [], A 155), (1, 40, [], A 156), (1, 40, [], A 157), (1, 40, [], A 158), (0, 5, [(4, 5), (4, 19), (4, 160), (4, 161), (4, 162), (4, 163), (0, O 159 6)], fun _ => 0), (2, 9, [], A 160), (1, 10, [], A 161), (1, 4, [], A 162), (1, 4, [], A 163), (0, 1, [(2, O 164 0), (2, O 164 1)], fun _ => 0), (0, 1, [(2, O 165 0), (2, O 165 1)], fun _ => 0), (0, 8, [(4, 167), (0, O 166 1)], fun _ => 0), (1, 80, [], A 167), (0, 11, [(0, O 168 0), (4, 169), (0, O 168 2), (0, O 168 3), (0, O 168 4), (0, O 168 5), (0, O 168 6), (0, O 168 7), (0, O 168 8), (0, O 168 9), (0, O 168 10), (0, O 168 11), (2, O 168 12), (0, O 168 13), (4, 170), (4, 171), (4, 172), (4, 173), (4, 174), (4, 175), (4, 176), (4, 177), (4, 178), (0, O 168 23), (0, O 168 24), (0, O 168 25), (0, O 168 26), (0, O 168 27), (0, O 168 28), (4, 179), (4, 180), (0, O 168 31), (0, O 168 32), (2, O 168 33), (2, O 168 34), (0, O 168 35), (4, 181), (0, O 168 37), (4, 182), (4, 183), (0, O 168 40), (0, O 168 41), (4, 184), (0, O 168 43), (0, O 168 44), (0, O 168 45), (0, O 168 46)], fun _ => 0), (1, 940, [], A 169), (1, 392, [], A 170), (1, 67, [], A 171), (1, 784, [], A 172), (1, 664, [], A 173), (1, 83, [], A 174), (2, 22, [], A 175), (2, 22, [], A 176), (2, 44, [], A 177), (4, 2, [], A 178), (1, 4, [], A 179), (1, 4, [], A 180), (1, 96, [], A 181), (1, 120, [], A 182), (1, 4, [], A 183), (1, 240, [], A 184), (2, 1, [], A 185)]
def cp_LW : List cc_P := [(0, 10, [(4, 1), (4, 3), (4, 5), (4, 12), (4, 19), (4, 27), (4, 35), (4, 101), (4, 144), (4, 149), (4, 154), (4, 159), (4, 164), (4, 165), (4, 166), (0, 0), (0, 0), (0, 0)]), (0, 8, [(4, 2), (0, 0)]), (1, 940, []), (0, 6, [(4, 1), (4, 4), (0, 0), (0, 0), (0, 0), (0, 0), (0, 0), (2, 0), (0, 0), (0, 0), (0, 0)]), (2, 24, []), (0, 2, [(4, 6), (4, 7), (4, 8), (4, 9), (4, 10), (4, 11), (0, 0), (0, 0)]), (1, 3, []), (2, 30, []), (1, 10, []), (1, 10, []), (1, 10, []), (1, 32, []), (0, 2, [(4, 13), (4, 14), (4, 15), (4, 16), (4, 17), (4, 18), (0, 0), (0, 0)]), (1, 3, []), (2, 30, []), (1, 10, []), (1, 10, []), (1, 10, []), (1, 32, []), (0, 4, [(4, 5), (4, 20), (4, 21), (4, 22), (4, 23), (4, 24), (4, 25), (4, 26), (0, 0), (0, 0), (0, 0)]), (1, 10, []), (1, 10, []), (1, 4, []), (1, 4, []), (1, 4, []), (1, 32, []), (1, 16, []), (0, 4, [(4, 5), (4, 28), (4, 29), (4, 30), (4, 31), (4, 32), (4, 33), (4, 34), (0, 0), (0, 0), (0, 0)]), (1, 10, []), (1, 10, []), (1, 4, []), (1, 4, []), (1, 4, []), (1, 32, []), (1, 16, []), (0, 9, [(4, 36), (0, 0), (0, 0)]), (3, 0, [(4, 37), (4, 45), (4, 53), (4, 61), (4, 69), (4, 77), (4, 85), (4, 93)]), (0, 4, [(4, 5), (4, 38), (4, 39), (4, 40), (4, 41), (4, 42), (4, 43), (4, 44), (0, 0), (0, 0), (0, 0)]), (1, 10, []), (1, 10, []), (1, 4, []), (1, 4, []), (1, 4, []), (1, 32, []), (1, 16, []), (0, 4, [(4, 5), (4, 46), (4, 47), (4, 48), (4, 49), (4, 50), (4, 51), (4, 52), (0, 0), (0, 0), (0, 0)]), (1, 10, []), (1, 10, []), (1, 4, []), (1, 4, []), (1, 4, []), (1, 32, []), (1, 16, []), (0, 4, [(4, 5), (4, 54), (4, 55), (4, 56), (4, 57), (4, 58), (4, 59), (4, 60), (0, 0), (0, 0), (0, 0)]), (1, 10, []), (1, 10, []), (1, 4, []), (1, 4, []), (1, 4, []), (1, 32, []), (1, 16, []), (0, 4, [(4, 5), (4, 62), (4, 63), (4, 64), (4, 65), (4, 66), (4, 67), (4, 68), (0, 0), (0, 0), (0, 0)]), (1, 10, []), (1, 10, []), (1, 4, []), (1, 4, []), (1, 4, []), (1, 32, []), (1, 16, []), (0, 4, [(4, 5), (4, 70), (4, 71), (4, 72), (4, 73), (4, 74), (4, 75), (4, 76), (0, 0), (0, 0), (0, 0)]), (1, 10, []), (1, 10, []), (1, 4, []), (1, 4, []), (1, 4, []), (1, 32, []), (1, 16, []), (0, 4, [(4, 5), (4, 78), (4, 79), (4, 80), (4, 81), (4, 82), (4, 83), (4, 84), (0, 0), (0, 0), (0, 0)]), (1, 10, []), (1, 10, []), (1, 4, []), (1, 4, []), (1, 4, []), (1, 32, []), (1, 16, []), (0, 4, [(4, 5), (4, 86), (4, 87), (4, 88), (4, 89), (4, 90), (4, 91), (4, 92), (0, 0), (0, 0), (0, 0)]), (1, 10, []), (1, 10, []), (1, 4, []), (1, 4, []), (1, 4, []), (1, 32, []), (1, 16, []), (0, 4, [(4, 5), (4, 94), (4, 95), (4, 96), (4, 97), (4, 98), (4, 99), (4, 100), (0, 0), (0, 0), (0, 0)]), (1, 10, []), (1, 10, []), (1, 4, []), (1, 4, []), (1, 4, []), (1, 32, []), (1, 16, []), (3, 3, [(4, 102), (4, 123)]), (0, 3, [(4, 103), (4, 110), (4, 118), (0, 0)]), (0, 2, [(4, 104), (4, 105), (4, 106), (4, 107), (4, 108), (4, 109), (0, 0), (0, 0)]), (1, 3, []), (2, 30, []), (1, 10, []), (1, 10, []), (1, 10, []), (1, 32, []), (0, 4, [(4, 5), (4, 111), (4, 112), (4, 113), (4, 114), (4, 115), (4, 116), (4, 117), (0, 0), (0, 0), (0, 0)]), (1, 10, []), (1, 10, []), (1, 4, []), (1, 4, []), (1, 4, []), (1, 32, []), (1, 16, []), (0, 7, [(4, 119), (4, 120), (4, 121), (4, 122), (0, 0), (0, 0), (0, 0)]), (1, 40, []), (1, 40, []), (1, 40, []), (1, 40, []), (0, 3, [(4, 124), (4, 131), (4, 139), (0, 0)]), (0, 2, [(4, 125), (4, 126), (4, 127), (4, 128), (4, 129), (4, 130), (0, 0), (0, 0)]), (1, 3, []), (2, 30, []), (1, 10, []), (1, 10, []), (1, 10, []), (1, 32, []), (0, 4, [(4, 5), (4, 132), (4, 133), (4, 134), (4, 135), (4, 136), (4, 137), (4, 138), (0, 0), (0, 0), (0, 0)]), (1, 10, []), (1, 10, []), (1, 4, []), (1, 4, []), (1, 4, []), (1, 32, []), (1, 16, []), (0, 7, [(4, 140), (4, 141), (4, 142), (4, 143), (0, 0), (0, 0), (0, 0)]), (1, 40, []), (1, 40, []), (1, 40, []), (1, 40, []), (0, 0, [(4, 145), (4, 146), (4, 147), (4, 148), (0, 0), (0, 0)]), (1, 40, []), (1, 40, []), (1, 40, []), (1, 4, []), (0, 7, [(4, 150), (4, 151), (4, 152), (4, 153), (0, 0), (0, 0), (0, 0)]), (1, 40, []), (1, 40, []), (1, 40, []), (1, 40, []), (0, 7, [(4, 155), (4, 156), (4, 157), (4, 158), (0, 0), (0, 0), (0, 0)]), (1, 40, []), (1, 40, []), (1, 40, []), (1, 40, []), (0, 5, [(4, 5), (4, 19), (4, 160), (4, 161), (4, 162), (4, 163), (0, 0)]), (2, 9, []), (1, 10, []), (1, 4, []), (1, 4, []), (0, 1, [(2, 0), (2, 0)]), (0, 1, [(2, 0), (2, 0)]), (0, 8, [(4, 167), (0, 0)]), (1, 80, []), (0, 11, [(0, 0), (4, 169), (0, 0), (0, 0), (0, 0), (0, 0), (0, 0), (0, 0), (0, 0), (0, 0), (0, 0), (0, 0), (2, 0), (0, 0), (4, 170), (4, 171), (4, 172), (4, 173), (4, 174), (4, 175), (4, 176), (4, 177), (4, 178), (0, 0), (0, 0), (0, 0), (0, 0), (0, 0), (0, 0), (4, 179), (4, 180), (0, 0), (0, 0), (2, 0), (2, 0), (0, 0), (4, 181), (0, 0), (4, 182), (4, 183), (0, 0), (0, 0), (4, 184), (0, 0), (0, 0), (0, 0), (0, 0)]), (1, 940, []), (1, 392, []), (1, 67, []), (1, 784, []), (1, 664, []), (1, 83, []), (2, 22, []), (2, 22, []), (2, 44, []), (4, 2, []), (1, 4, []), (1, 4, []), (1, 96, []), (1, 120, []), (1, 4, []), (1, 240, []), (2, 1, [])]
set_option maxRecDepth 100000 in
set_option maxHeartbeats 4000000 in
theorem cq_LW (O A : Nat → Nat → Int) : cx_LW O A = cc_mk cp_LW 0 O A := rfl
theorem cx_M_w (O A : Nat → Nat → Int) : cx_M O A = mm_w (O 0) A := rfl
abbrev pW_C : List Nat := [0, 1, 2, 3, 4, 5, 6, 7, 8, 9, 10, 11, 12, 13, 14, 15, 16, 17, 18, 19, 20, 21, 22, 23, 24, 25, 26, 27, 28, 29, 30, 31, 32, 33, 34, 35, 36, 37, 38, 39, 40, 41, 42, 43, 44, 45, 46, 47, 48, 49, 50, 51, 52, 53, 54, 55, 56, 57, 58, 59, 60, 61, 62, 63, 64, 65, 66, 67, 68, 69, 70, 71, 72, 73, 74, 75, 76, 77, 78, 79, 80, 81, 82, 83, 84, 85, 86, 87, 88, 89, 90, 91, 92, 93, 94, 95, 96, 97, 98, 99, 100, 101, 102, 103, 104, 105, 106, 107, 108, 109, 110, 111, 112, 113, 114, 115, 116, 117, 118, 119, 120, 121, 122, 123, 124, 125, 126, 127, 128, 129, 130, 131, 132, 133, 134, 135, 136, 137, 138, 139, 140, 141, 142, 143, 144, 145, 146, 147, 148, 149, 150, 151, 152, 153, 154, 155, 156, 157, 158, 159, 160, 161, 162, 163, 164, 165, 166, 167]
set_option maxRecDepth 100000 in
set_option maxHeartbeats 4000000 in
theorem ce_W_C : cc_E cx_LW cx_C pW_C := cc_plan cq_LW cq_C (by decide +kernel) (by decide +kernel)
abbrev pW_M : List Nat := [168, 169, 170, 171, 172, 173, 174, 175, 176, 177, 178, 179, 180, 181, 182, 183, 184]
set_option maxRecDepth 100000 in
set_option maxHeartbeats 4000000 in
theorem ce_W_M : cc_E cx_LW cx_M pW_M := cc_plan cq_LW cq_M (by decide +kernel) (by decide +kernel)
set_option maxRecDepth 100000 in
set_option maxHeartbeats 4000000 in
theorem ce_W_H : cc_E cx_LW cx_H pC_H := cc_plan cq_LW cq_H (by decide +kernel) (by decide +kernel)
set_option maxRecDepth 100000 in
set_option maxHeartbeats 4000000 in
theorem ce_W_L : cc_E cx_LW cx_L pC_L := cc_plan cq_LW cq_L (by decide +kernel) (by decide +kernel)
set_option maxRecDepth 100000 in
set_option maxHeartbeats 4000000 in
theorem ce_W_HX : cc_E cx_LW cx_HX pC_HX := cc_plan cq_LW cq_HX (by decide +kernel) (by decide +kernel)
set_option maxRecDepth 100000 in
set_option maxHeartbeats 4000000 in
theorem ce_W_Fl : cc_E cx_LW cx_F pC_Fl := cc_plan cq_LW cq_F (by decide +kernel) (by decide +kernel)
set_option maxRecDepth 100000 in
set_option maxHeartbeats 4000000 in
theorem ce_W_Ff : cc_E cx_LW cx_F pC_Ff := cc_plan cq_LW cq_F (by decide +kernel) (by decide +kernel)
set_option maxRecDepth 100000 in
set_option maxHeartbeats 4000000 in
theorem ce_W_LoF : cc_E cx_LW cx_LoF pC_LoF := cc_plan cq_LW cq_LoF (by decide +kernel) (by decide +kernel)
theorem pW_C_at : ∀ p, p < 168 → pW_C.getD p 0 = p := by decide +kernel
theorem pW_C_get : ∀ p, p < 168 → pW_C[p]? = some p := by decide +kernel
theorem pW_C_nd : va_nd pW_C = true := by decide +kernel
theorem kk_ren_ne {ps : List Nat} {ty : Nat} {x : Int} (h : ty ≠ 4) : kk_ren ps (ty, x) = (ty, x) := by
  unfold kk_ren
  split
  · rename_i x9 h9
    cases h9
    exact absurd rfl h
  · rfl
variable {Bc : ci_B} {Bm : Nat → Nat → Int}
set_option maxRecDepth 100000 in
set_option maxHeartbeats 4000000 in
theorem mm_I_ext {F : Nat → Int} {A A' : Nat → Nat → Int} (e : ∀ p, p < 17 → A' p = A p) (h : mm_I Bm F A) : mm_I Bm F A' := by
  unfold mm_I mm_Ia mm_fr at h ⊢
  rw [e 1 (by decide), e 7 (by decide), e 8 (by decide), e 9 (by decide), e 2 (by decide), e 5 (by decide), e 10 (by decide), e 4 (by decide), e 16 (by decide)]
  exact h
set_option maxRecDepth 100000 in
set_option maxHeartbeats 4000000 in
theorem ci_fp168 : ∀ g, g ∈ ci_G → ∀ p, p ∈ cg_fp g.1 g.2 → p < 168 := by decide +kernel
section CIE
variable {t k0 k1 : Int} {O A O2 A2 : Nat → Nat → Int}
set_option maxRecDepth 100000 in
set_option maxHeartbeats 4000000 in
theorem ci_pO_lt {p : Nat} (h : ci_pO p = true) : p < 168 := by
  unfold ci_pO at h
  simp only [Bool.or_eq_true, Nat.beq_eq] at h
  omega
set_option maxRecDepth 100000 in
set_option maxHeartbeats 4000000 in
theorem ci_pA_lt {p : Nat} (h : ci_pA p = true) : p < 168 := by
  unfold ci_pA at h
  simp only [Bool.or_eq_true, Bool.and_eq_true, Nat.beq_eq, Nat.ble_eq] at h
  omega
set_option maxRecDepth 100000 in
set_option maxHeartbeats 4000000 in
theorem ci_J.ext (h : ci_J Bc t k0 k1 O A) (e : ∀ p, p < 168 → O2 p = O p ∧ A2 p = A p) : ci_J Bc t k0 k1 O2 A2 := by
  refine ⟨fun g hg => cg_same (fun p hp => e p (ci_fp168 g hg p hp)) (h.1 g hg), ?_, ?_, ?_, h.fr.eq (fun p hp => (e p (ci_pO_lt hp)).1) (fun p hp => (e p (ci_pA_lt hp)).2)⟩
  · rw [(e 1 (by decide)).1]; exact h.2.1
  · rw [(e 102 (by decide)).1]; exact h.2.2.1
  · rw [(e 123 (by decide)).1]; exact h.2.2.2.1
set_option maxRecDepth 100000 in
set_option maxHeartbeats 4000000 in
theorem ci_J.inW (h : ci_J Bc t k0 k1 O A) : ci_J Bc t k0 k1 (cc_in pW_C O) (cc_in pW_C A) := h.ext (fun p hp => by
  unfold cc_in
  rw [pW_C_at p hp]
  exact ⟨rfl, rfl⟩)
end CIE
/-! in the law: what is so of the class, of the reference, and of both -/
def lw_H (Bc : ci_B) (Bm : Nat → Nat → Int) (t a b T c e : Int) (O A : Nat → Nat → Int) : Prop := ci_J Bc t a b O A ∧ mm_I Bm (O 168) (cc_in pW_M A) ∧ O 168 2 = T ∧ A 178 0 = c ∧ A 178 1 = e
section LWW
variable {l : Launch} {d d' : Nat} {M : List en_T} {t : en_T} {xc : kk_X} {R : Instr → List en_V → List kk_C → Prop} {K : kk_Q} {O A : Nat → Nat → Int} {pc : Nat} {L : en_L} {st r : List en_V} {z : kk_Z5} {tl a b T c e : Int}
set_option maxRecDepth 100000 in
set_option maxHeartbeats 4000000 in
theorem lw_H.cls (h : lw_H Bc Bm tl a b T c e O A) : ci_J Bc tl a b (cc_in pW_C O) (cc_in pW_C A) := h.1.inW
set_option maxRecDepth 100000 in
set_option maxHeartbeats 4000000 in
theorem lw_outC (O' A' O A : Nat → Nat → Int) : (∀ p, p < 168 → cc_out O' O pW_C 0 p = O' p ∧ cc_out A' A pW_C 0 p = A' p) ∧ ∀ p, 168 ≤ p → cc_out O' O pW_C 0 p = O p ∧ cc_out A' A pW_C 0 p = A p := by
  refine ⟨fun p hp => ?_, fun p hp => ?_⟩
  · rw [cc_out_in pW_C_nd (pW_C_get p hp), cc_out_in pW_C_nd (pW_C_get p hp), Nat.zero_add]
    exact ⟨rfl, rfl⟩
  · have hm : p ∉ pW_C := fun hm => absurd ((show ∀ q, q ∈ pW_C → q < 168 by decide +kernel) p hm) (by omega)
    exact ⟨cc_out_out hm, cc_out_out hm⟩
/-! a call of the class, in the law -/
set_option maxRecDepth 100000 in
set_option maxHeartbeats 4000000 in
theorem lw_x {t' : en_T} {as0 as : List en_V} {Ψ : List en_V → List kk_C → Prop} {Φ : List en_V → (Nat → Nat → Int) → (Nat → Nat → Int) → Prop} (hC : kk_Clo l d M t xc R K) (hct : kk_Ctr l d' t' as0 (cx_C (cc_in pW_C O) (cc_in pW_C A)) Ψ) (hw : ∀ rs w', Ψ rs w' → ∃ O' A', w' = cx_C O' A' ∧ Φ rs O' A') (hf : en_find (en_te t) pc = some z) (hM : M[z.2.2.1]? = some t') (ht : en_take z.2.2.2.1 [] st = some (as, r)) (hc : kk_chk z t' as r (cx_LW O A) = true) (hp : as0.all (kk_wfv pW_C.length) = true) (ha : as = as0.map (kk_ren pW_C)) (hd : d' + 1 ≤ d)
    (h : ∀ rs O' A', Φ rs O' A' → ∀ O1 A1, (∀ p, p < 168 → O1 p = O' p ∧ A1 p = A' p) → (∀ p, 168 ≤ p → O1 p = O p ∧ A1 p = A p) → K z.1 L (rs.map (kk_ren pW_C) ++ r) (cx_LW O1 A1)) : K pc L st (cx_LW O A) := by
  refine hC.call hct pW_C hf hM ht hc (cc_prt ce_W_C hp _ _) ha (ce_W_C.1 O A) hd ?_
  intro rs w0' hΨ
  obtain ⟨O', A', rfl, hΦ⟩ := hw rs w0' hΨ
  rw [ce_W_C.2.1]
  exact h rs O' A' hΦ _ _ (lw_outC O' A' O A).1 (lw_outC O' A' O A).2
set_option maxRecDepth 100000 in
set_option maxHeartbeats 4000000 in
theorem lw_H.nx {Bc2 : ci_B} {O1 A1 O' A' : Nat → Nat → Int} {tl2 a2 b2 : Int} (h : lw_H Bc Bm tl a b T c e O A) (hJ : ci_J Bc2 tl2 a2 b2 O' A') (e1 : ∀ p, p < 168 → O1 p = O' p ∧ A1 p = A' p) (e2 : ∀ p, 168 ≤ p → O1 p = O p ∧ A1 p = A p) : lw_H Bc2 Bm tl2 a2 b2 T c e O1 A1 := by
  refine ⟨hJ.ext e1, ?_, ?_, ?_, ?_⟩
  · have q := h.2.1
    rw [(e2 168 (by decide)).1]
    have ea : ∀ p, p < 17 → cc_in pW_M A1 p = cc_in pW_M A p := fun p hp => (e2 _ ((show ∀ p, p < 17 → 168 ≤ pW_M.getD p 0 by decide +kernel) p hp)).2
    exact mm_I_ext (fun p hp => ea p (by omega)) q
  · rw [(e2 168 (by decide)).1]; exact h.2.2.1
  · rw [(e2 178 (by decide)).2]; exact h.2.2.2.1
  · rw [(e2 178 (by decide)).2]; exact h.2.2.2.2
set_option maxRecDepth 100000 in
set_option maxHeartbeats 4000000 in
theorem lw_x1 {t' : en_T} {as0 as : List en_V} {tl2 : Int} {ty : Nat} (hC : kk_Clo l d M t xc R K) (hI : lw_H Bc Bm tl a b T c e O A) (hty : ty ≠ 4) (hct : kk_Ctr l d' t' as0 (cx_C (cc_in pW_C O) (cc_in pW_C A)) (ci_Q Bc tl2 a b ty)) (hf : en_find (en_te t) pc = some z) (hM : M[z.2.2.1]? = some t') (ht : en_take z.2.2.2.1 [] st = some (as, r)) (hc : kk_chk z t' as r (cx_LW O A) = true) (hp : as0.all (kk_wfv pW_C.length) = true) (ha : as = as0.map (kk_ren pW_C)) (hd : d' + 1 ≤ d)
    (h : ∀ x O1 A1, lw_H Bc Bm tl2 a b T c e O1 A1 → K z.1 L ((ty, x) :: r) (cx_LW O1 A1)) : K pc L st (cx_LW O A) := by
  refine lw_x hC hct (fun rs w' h => h) hf hM ht hc hp ha hd ?_
  rintro rs O' A' ⟨hJ, x, rfl⟩ O1 A1 e1 e2
  have hk : kk_ren pW_C (ty, x) = (ty, x) := kk_ren_ne hty
  rw [List.map_cons, hk]
  exact h x O1 A1 (hI.nx hJ e1 e2)
/-! a call of the reference, in the law -/
set_option maxRecDepth 100000 in
set_option maxHeartbeats 4000000 in
theorem lw_m {t' : en_T} {as0 as : List en_V} {Ψ : List en_V → List kk_C → Prop} {Φ : List en_V → (Nat → Int) → (Nat → Nat → Int) → Prop} (hC : kk_Clo l d M t xc R K) (hct : kk_Ctr l d' t' as0 (mm_w (O 168) (cc_in pW_M A)) Ψ) (hw : ∀ rs w', Ψ rs w' → ∃ F' A', w' = mm_w F' A' ∧ Φ rs F' A') (hf : en_find (en_te t) pc = some z) (hM : M[z.2.2.1]? = some t') (ht : en_take z.2.2.2.1 [] st = some (as, r)) (hc : kk_chk z t' as r (cx_LW O A) = true) (hp : as0.all (kk_wfv pW_M.length) = true) (ha : as = as0.map (kk_ren pW_M)) (hd : d' + 1 ≤ d)
    (h : ∀ rs F' A', Φ rs F' A' → ∀ O1 A1, (∀ p, p < 168 → O1 p = O p ∧ A1 p = A p) → O1 168 = F' → (∀ p, p < 17 → cc_in pW_M A1 p = A' p) → K z.1 L (rs.map (kk_ren pW_M) ++ r) (cx_LW O1 A1)) : K pc L st (cx_LW O A) := by
  have hct2 : kk_Ctr l d' t' as0 (cx_M (cc_in pW_M O) (cc_in pW_M A)) Ψ := hct
  refine hC.call hct2 pW_M hf hM ht hc (cc_prt ce_W_M hp _ _) ha (ce_W_M.1 O A) hd ?_
  intro rs w0' hΨ
  obtain ⟨F', A', rfl, hΦ⟩ := hw rs w0' hΨ
  have e0 : mm_w F' A' = cx_M (fun _ => F') A' := rfl
  rw [e0, ce_W_M.2.1]
  have hnd : va_nd pW_M = true := by decide +kernel
  refine h rs F' A' hΦ _ _ (fun p hp => ?_) ?_ (fun p hp => ?_)
  · have hm : p ∉ pW_M := fun hm => absurd ((show ∀ q, q ∈ pW_M → 168 ≤ q by decide +kernel) p hm) (by omega)
    exact ⟨cc_out_out hm, cc_out_out hm⟩
  · rw [cc_out_in (i := 0) hnd (by decide)]
  · have hg : pW_M[p]? = some (168 + p) := (show ∀ p, p < 17 → pW_M[p]? = some (168 + p) by decide +kernel) p hp
    show cc_out A' A pW_M 0 (pW_M.getD p 0) = A' p
    rw [kk_getD hg, cc_out_in hnd hg, Nat.zero_add]
set_option maxRecDepth 100000 in
set_option maxHeartbeats 4000000 in
theorem lw_H.nm {Bm2 : Nat → Nat → Int} {O1 A1 A' : Nat → Nat → Int} {F' : Nat → Int} (h : lw_H Bc Bm tl a b T c e O A) (hI : mm_I Bm2 F' A') (e1 : ∀ p, p < 168 → O1 p = O p ∧ A1 p = A p) (e2 : O1 168 = F') (e3 : ∀ p, p < 17 → cc_in pW_M A1 p = A' p) : lw_H Bc Bm2 tl a b (F' 2) (A' 10 0) (A' 10 1) O1 A1 := by
  have e4 : A1 178 = A' 10 := e3 10 (by decide)
  refine ⟨h.1.ext e1, ?_, ?_, ?_, ?_⟩
  · rw [e2]
    exact mm_I_ext e3 hI
  · rw [e2]
  · rw [e4]
  · rw [e4]
set_option maxRecDepth 100000 in
set_option maxHeartbeats 4000000 in
theorem lw_m1 {t' : en_T} {as0 as : List en_V} {T2 : Int} {ty : Nat} (hC : kk_Clo l d M t xc R K) (hI : lw_H Bc Bm tl a b T c e O A) (hty : ty ≠ 4) (hct : kk_Ctr l d' t' as0 (mm_w (O 168) (cc_in pW_M A)) (mm_Po Bm T2 (cc_in pW_M A 10) ty)) (hf : en_find (en_te t) pc = some z) (hM : M[z.2.2.1]? = some t') (ht : en_take z.2.2.2.1 [] st = some (as, r)) (hc : kk_chk z t' as r (cx_LW O A) = true) (hp : as0.all (kk_wfv pW_M.length) = true) (ha : as = as0.map (kk_ren pW_M)) (hd : d' + 1 ≤ d)
    (h : ∀ x O1 A1, lw_H Bc Bm tl a b T2 c e O1 A1 → K z.1 L ((ty, x) :: r) (cx_LW O1 A1)) : K pc L st (cx_LW O A) := by
  refine lw_m (Φ := fun rs F' A' => ∃ x, rs = [(ty, x)] ∧ mm_I Bm F' A' ∧ F' 2 = T2 ∧ A' 10 = cc_in pW_M A 10) hC hct (fun rs w' h => ?_) hf hM ht hc hp ha hd ?_
  · obtain ⟨F', A', x, h1, h2, h3, h4, h5⟩ := h
    exact ⟨F', A', h1, x, h2, h3, h4, h5⟩
  rintro rs F' A' ⟨x, rfl, h3, h4, h5⟩ O1 A1 e1 e2 e3
  have hk : kk_ren pW_M (ty, x) = (ty, x) := kk_ren_ne hty
  rw [List.map_cons, hk]
  have q := hI.nm h3 e1 e2 e3
  rw [h4, h5] at q
  have e0 : cc_in pW_M A 10 0 = c := hI.2.2.2.1
  have e9 : cc_in pW_M A 10 1 = e := hI.2.2.2.2
  rw [e0, e9] at q
  exact h x O1 A1 q
set_option maxRecDepth 100000 in
set_option maxHeartbeats 4000000 in
theorem lw_m2 {t' : en_T} {as0 as : List en_V} {ty : Nat} (hC : kk_Clo l d M t xc R K) (hI : lw_H Bc Bm tl a b T c e O A) (hty : ty ≠ 4) (hct : kk_Ctr l d' t' as0 (mm_w (O 168) (cc_in pW_M A)) (mm_Po Bm (O 168 2) (cc_in pW_M A 10) ty)) (hf : en_find (en_te t) pc = some z) (hM : M[z.2.2.1]? = some t') (ht : en_take z.2.2.2.1 [] st = some (as, r)) (hc : kk_chk z t' as r (cx_LW O A) = true) (hp : as0.all (kk_wfv pW_M.length) = true) (ha : as = as0.map (kk_ren pW_M)) (hd : d' + 1 ≤ d)
    (h : ∀ x O1 A1, lw_H Bc Bm tl a b T c e O1 A1 → K z.1 L ((ty, x) :: r) (cx_LW O1 A1)) : K pc L st (cx_LW O A) := by
  refine lw_m1 hC hI hty hct hf hM ht hc hp ha hd ?_
  rw [hI.2.2.1]
  exact h
set_option maxRecDepth 100000 in
set_option maxHeartbeats 4000000 in
theorem lw_H.o {f : Nat → Int} (h : lw_H Bc Bm tl a b T c e O A) : lw_H Bc Bm tl a b T c e O (mm_up A 185 f) := by
  refine ⟨h.1.ext (fun p hp => ⟨rfl, mm_up_ne (by omega)⟩), mm_I_ext (fun p hp => ?_) h.2.1, h.2.2.1, h.2.2.2.1, h.2.2.2.2⟩
  exact mm_up_ne (fun q => absurd ((show ∀ p, p < 17 → pW_M.getD p 0 ≠ 185 by decide +kernel) p hp) (fun q2 => q2 q))
end LWW
set_option maxRecDepth 100000 in
set_option maxHeartbeats 4000000 in
theorem mm_I.fr {Bm : Nat → Nat → Int} {F : Nat → Int} {A : Nat → Nat → Int} (h : mm_I Bm F A) : mm_fr Bm (F 26) (F 35) (F 10) A := h.2.2.2.2.2.2.2.2.2.2.2
/-- between two turns: both are well, and alike -/
def lw_E (tl a b : Int) (O A : Nat → Nat → Int) : Prop := ∃ Bc Bm, lw_H Bc Bm tl a b tl a b O A ∧ al Bc Bm tl a b

def zk_X12_copyRow_34 : zCT := ((yX12_copyRow, cX12_copyRow, 5, none), (0, 0), ([(9, 1, 0), (0, 2, 0), (0, 3, 0), (0, 4, 0)], ([(0, 0), (0, 2147483647), (104, 104), (0, 0), (3, 3)], [(0, (9, 1, 0)), (1, (0, 2, 0)), (2, (0, 3, 0)), (3, (0, 4, 0))], [], [], [])), [([(0, 0), (0, 2147483647), (104, 104), (0, 0), (3, 3)], [], [], [], [])], [(7, 312, 415)])
def zma_X12_copyRow_34_0 : Nat × zAS × zRK := (3, ([(0, 0), (0, 2147483647), (104, 104), (0, 0), (3, 3)], [(0, (9, 1, 0)), (1, (0, 2, 0)), (2, (0, 3, 0)), (3, (0, 4, 0)), (4, (0, 0, 0))], [], [], []), (10991817742876776, [(0, (-1))]))
def zma_X12_copyRow_34_1 : Nat × zAS × zRK := (3, ([(0, 0), (0, 2147483647), (104, 104), (0, 0), (3, 3)], [(0, (9, 1, 0)), (1, (0, 2, 0)), (2, (0, 3, 0)), (3, (0, 4, 0)), (4, (0, 0, 1))], [], [], []), (10991817742876775, [(0, (-1))]))
def zma_X12_copyRow_34_2 : Nat × zAS × zRK := (3, ([(0, 0), (0, 2147483647), (104, 104), (0, 0), (3, 3)], [(0, (9, 1, 0)), (1, (0, 2, 0)), (2, (0, 3, 0)), (3, (0, 4, 0)), (4, (0, 0, 10))], [], [], []), (10991817742876766, [(0, (-1))]))
def zma_X12_copyRow_34_3 : Nat × zAS × zRK := (3, ([(0, 0), (0, 2147483647), (104, 104), (0, 0), (3, 3)], [(0, (9, 1, 0)), (1, (0, 2, 0)), (2, (0, 3, 0)), (3, (0, 4, 0)), (4, (0, 0, 100))], [], [], []), (10991817742876676, [(0, (-1))]))
def zma_X12_copyRow_34_4 : Nat × zAS × zRK := (3, ([(0, 0), (0, 2147483647), (104, 104), (0, 0), (3, 3)], [(0, (9, 1, 0)), (1, (0, 2, 0)), (2, (0, 3, 0)), (3, (0, 4, 0)), (4, (0, 0, 101))], [], [], []), (10991817742876675, [(0, (-1))]))
def zma_X12_copyRow_34_5 : Nat × zAS × zRK := (3, ([(0, 0), (0, 2147483647), (104, 104), (0, 0), (3, 3)], [(0, (9, 1, 0)), (1, (0, 2, 0)), (2, (0, 3, 0)), (3, (0, 4, 0)), (4, (0, 0, 102))], [], [], []), (10991817742876674, [(0, (-1))]))
def zma_X12_copyRow_34_6 : Nat × zAS × zRK := (3, ([(0, 0), (0, 2147483647), (104, 104), (0, 0), (3, 3)], [(0, (9, 1, 0)), (1, (0, 2, 0)), (2, (0, 3, 0)), (3, (0, 4, 0)), (4, (0, 0, 103))], [], [], []), (10991817742876673, [(0, (-1))]))
def zma_X12_copyRow_34_7 : Nat × zAS × zRK := (3, ([(0, 0), (0, 2147483647), (104, 104), (0, 0), (3, 3)], [(0, (9, 1, 0)), (1, (0, 2, 0)), (2, (0, 3, 0)), (3, (0, 4, 0)), (4, (0, 0, 104))], [], [], []), (10991817742876672, [(0, (-1))]))
def zma_X12_copyRow_34_8 : Nat × zAS × zRK := (3, ([(0, 0), (0, 2147483647), (104, 104), (0, 0), (3, 3)], [(0, (9, 1, 0)), (1, (0, 2, 0)), (2, (0, 3, 0)), (3, (0, 4, 0)), (4, (0, 0, 11))], [], [], []), (10991817742876765, [(0, (-1))]))
def zma_X12_copyRow_34_9 : Nat × zAS × zRK := (3, ([(0, 0), (0, 2147483647), (104, 104), (0, 0), (3, 3)], [(0, (9, 1, 0)), (1, (0, 2, 0)), (2, (0, 3, 0)), (3, (0, 4, 0)), (4, (0, 0, 12))], [], [], []), (10991817742876764, [(0, (-1))]))
def zma_X12_copyRow_34_10 : Nat × zAS × zRK := (3, ([(0, 0), (0, 2147483647), (104, 104), (0, 0), (3, 3)], [(0, (9, 1, 0)), (1, (0, 2, 0)), (2, (0, 3, 0)), (3, (0, 4, 0)), (4, (0, 0, 13))], [], [], []), (10991817742876763, [(0, (-1))]))
def zma_X12_copyRow_34_11 : Nat × zAS × zRK := (3, ([(0, 0), (0, 2147483647), (104, 104), (0, 0), (3, 3)], [(0, (9, 1, 0)), (1, (0, 2, 0)), (2, (0, 3, 0)), (3, (0, 4, 0)), (4, (0, 0, 14))], [], [], []), (10991817742876762, [(0, (-1))]))
def zma_X12_copyRow_34_12 : Nat × zAS × zRK := (3, ([(0, 0), (0, 2147483647), (104, 104), (0, 0), (3, 3)], [(0, (9, 1, 0)), (1, (0, 2, 0)), (2, (0, 3, 0)), (3, (0, 4, 0)), (4, (0, 0, 15))], [], [], []), (10991817742876761, [(0, (-1))]))
def zma_X12_copyRow_34_13 : Nat × zAS × zRK := (3, ([(0, 0), (0, 2147483647), (104, 104), (0, 0), (3, 3)], [(0, (9, 1, 0)), (1, (0, 2, 0)), (2, (0, 3, 0)), (3, (0, 4, 0)), (4, (0, 0, 16))], [], [], []), (10991817742876760, [(0, (-1))]))
def zma_X12_copyRow_34_14 : Nat × zAS × zRK := (3, ([(0, 0), (0, 2147483647), (104, 104), (0, 0), (3, 3)], [(0, (9, 1, 0)), (1, (0, 2, 0)), (2, (0, 3, 0)), (3, (0, 4, 0)), (4, (0, 0, 17))], [], [], []), (10991817742876759, [(0, (-1))]))
def zma_X12_copyRow_34_15 : Nat × zAS × zRK := (3, ([(0, 0), (0, 2147483647), (104, 104), (0, 0), (3, 3)], [(0, (9, 1, 0)), (1, (0, 2, 0)), (2, (0, 3, 0)), (3, (0, 4, 0)), (4, (0, 0, 18))], [], [], []), (10991817742876758, [(0, (-1))]))
def zma_X12_copyRow_34_16 : Nat × zAS × zRK := (3, ([(0, 0), (0, 2147483647), (104, 104), (0, 0), (3, 3)], [(0, (9, 1, 0)), (1, (0, 2, 0)), (2, (0, 3, 0)), (3, (0, 4, 0)), (4, (0, 0, 19))], [], [], []), (10991817742876757, [(0, (-1))]))
def zma_X12_copyRow_34_17 : Nat × zAS × zRK := (3, ([(0, 0), (0, 2147483647), (104, 104), (0, 0), (3, 3)], [(0, (9, 1, 0)), (1, (0, 2, 0)), (2, (0, 3, 0)), (3, (0, 4, 0)), (4, (0, 0, 2))], [], [], []), (10991817742876774, [(0, (-1))]))
def zma_X12_copyRow_34_18 : Nat × zAS × zRK := (3, ([(0, 0), (0, 2147483647), (104, 104), (0, 0), (3, 3)], [(0, (9, 1, 0)), (1, (0, 2, 0)), (2, (0, 3, 0)), (3, (0, 4, 0)), (4, (0, 0, 20))], [], [], []), (10991817742876756, [(0, (-1))]))
def zma_X12_copyRow_34_19 : Nat × zAS × zRK := (3, ([(0, 0), (0, 2147483647), (104, 104), (0, 0), (3, 3)], [(0, (9, 1, 0)), (1, (0, 2, 0)), (2, (0, 3, 0)), (3, (0, 4, 0)), (4, (0, 0, 21))], [], [], []), (10991817742876755, [(0, (-1))]))
def zma_X12_copyRow_34_20 : Nat × zAS × zRK := (3, ([(0, 0), (0, 2147483647), (104, 104), (0, 0), (3, 3)], [(0, (9, 1, 0)), (1, (0, 2, 0)), (2, (0, 3, 0)), (3, (0, 4, 0)), (4, (0, 0, 22))], [], [], []), (10991817742876754, [(0, (-1))]))
def zma_X12_copyRow_34_21 : Nat × zAS × zRK := (3, ([(0, 0), (0, 2147483647), (104, 104), (0, 0), (3, 3)], [(0, (9, 1, 0)), (1, (0, 2, 0)), (2, (0, 3, 0)), (3, (0, 4, 0)), (4, (0, 0, 23))], [], [], []), (10991817742876753, [(0, (-1))]))
def zma_X12_copyRow_34_22 : Nat × zAS × zRK := (3, ([(0, 0), (0, 2147483647), (104, 104), (0, 0), (3, 3)], [(0, (9, 1, 0)), (1, (0, 2, 0)), (2, (0, 3, 0)), (3, (0, 4, 0)), (4, (0, 0, 24))], [], [], []), (10991817742876752, [(0, (-1))]))
def zma_X12_copyRow_34_23 : Nat × zAS × zRK := (3, ([(0, 0), (0, 2147483647), (104, 104), (0, 0), (3, 3)], [(0, (9, 1, 0)), (1, (0, 2, 0)), (2, (0, 3, 0)), (3, (0, 4, 0)), (4, (0, 0, 25))], [], [], []), (10991817742876751, [(0, (-1))]))
def zma_X12_copyRow_34_24 : Nat × zAS × zRK := (3, ([(0, 0), (0, 2147483647), (104, 104), (0, 0), (3, 3)], [(0, (9, 1, 0)), (1, (0, 2, 0)), (2, (0, 3, 0)), (3, (0, 4, 0)), (4, (0, 0, 26))], [], [], []), (10991817742876750, [(0, (-1))]))
def zma_X12_copyRow_34_25 : Nat × zAS × zRK := (3, ([(0, 0), (0, 2147483647), (104, 104), (0, 0), (3, 3)], [(0, (9, 1, 0)), (1, (0, 2, 0)), (2, (0, 3, 0)), (3, (0, 4, 0)), (4, (0, 0, 27))], [], [], []), (10991817742876749, [(0, (-1))]))
def zma_X12_copyRow_34_26 : Nat × zAS × zRK := (3, ([(0, 0), (0, 2147483647), (104, 104), (0, 0), (3, 3)], [(0, (9, 1, 0)), (1, (0, 2, 0)), (2, (0, 3, 0)), (3, (0, 4, 0)), (4, (0, 0, 28))], [], [], []), (10991817742876748, [(0, (-1))]))
def zma_X12_copyRow_34_27 : Nat × zAS × zRK := (3, ([(0, 0), (0, 2147483647), (104, 104), (0, 0), (3, 3)], [(0, (9, 1, 0)), (1, (0, 2, 0)), (2, (0, 3, 0)), (3, (0, 4, 0)), (4, (0, 0, 29))], [], [], []), (10991817742876747, [(0, (-1))]))
def zma_X12_copyRow_34_28 : Nat × zAS × zRK := (3, ([(0, 0), (0, 2147483647), (104, 104), (0, 0), (3, 3)], [(0, (9, 1, 0)), (1, (0, 2, 0)), (2, (0, 3, 0)), (3, (0, 4, 0)), (4, (0, 0, 3))], [], [], []), (10991817742876773, [(0, (-1))]))
def zma_X12_copyRow_34_29 : Nat × zAS × zRK := (3, ([(0, 0), (0, 2147483647), (104, 104), (0, 0), (3, 3)], [(0, (9, 1, 0)), (1, (0, 2, 0)), (2, (0, 3, 0)), (3, (0, 4, 0)), (4, (0, 0, 30))], [], [], []), (10991817742876746, [(0, (-1))]))
def zma_X12_copyRow_34_30 : Nat × zAS × zRK := (3, ([(0, 0), (0, 2147483647), (104, 104), (0, 0), (3, 3)], [(0, (9, 1, 0)), (1, (0, 2, 0)), (2, (0, 3, 0)), (3, (0, 4, 0)), (4, (0, 0, 31))], [], [], []), (10991817742876745, [(0, (-1))]))
def zma_X12_copyRow_34_31 : Nat × zAS × zRK := (3, ([(0, 0), (0, 2147483647), (104, 104), (0, 0), (3, 3)], [(0, (9, 1, 0)), (1, (0, 2, 0)), (2, (0, 3, 0)), (3, (0, 4, 0)), (4, (0, 0, 32))], [], [], []), (10991817742876744, [(0, (-1))]))
def zma_X12_copyRow_34_32 : Nat × zAS × zRK := (3, ([(0, 0), (0, 2147483647), (104, 104), (0, 0), (3, 3)], [(0, (9, 1, 0)), (1, (0, 2, 0)), (2, (0, 3, 0)), (3, (0, 4, 0)), (4, (0, 0, 33))], [], [], []), (10991817742876743, [(0, (-1))]))
def zma_X12_copyRow_34_33 : Nat × zAS × zRK := (3, ([(0, 0), (0, 2147483647), (104, 104), (0, 0), (3, 3)], [(0, (9, 1, 0)), (1, (0, 2, 0)), (2, (0, 3, 0)), (3, (0, 4, 0)), (4, (0, 0, 34))], [], [], []), (10991817742876742, [(0, (-1))]))
def zma_X12_copyRow_34_34 : Nat × zAS × zRK := (3, ([(0, 0), (0, 2147483647), (104, 104), (0, 0), (3, 3)], [(0, (9, 1, 0)), (1, (0, 2, 0)), (2, (0, 3, 0)), (3, (0, 4, 0)), (4, (0, 0, 35))], [], [], []), (10991817742876741, [(0, (-1))]))
def zma_X12_copyRow_34_35 : Nat × zAS × zRK := (3, ([(0, 0), (0, 2147483647), (104, 104), (0, 0), (3, 3)], [(0, (9, 1, 0)), (1, (0, 2, 0)), (2, (0, 3, 0)), (3, (0, 4, 0)), (4, (0, 0, 36))], [], [], []), (10991817742876740, [(0, (-1))]))
def zma_X12_copyRow_34_36 : Nat × zAS × zRK := (3, ([(0, 0), (0, 2147483647), (104, 104), (0, 0), (3, 3)], [(0, (9, 1, 0)), (1, (0, 2, 0)), (2, (0, 3, 0)), (3, (0, 4, 0)), (4, (0, 0, 37))], [], [], []), (10991817742876739, [(0, (-1))]))
def zma_X12_copyRow_34_37 : Nat × zAS × zRK := (3, ([(0, 0), (0, 2147483647), (104, 104), (0, 0), (3, 3)], [(0, (9, 1, 0)), (1, (0, 2, 0)), (2, (0, 3, 0)), (3, (0, 4, 0)), (4, (0, 0, 38))], [], [], []), (10991817742876738, [(0, (-1))]))
def zma_X12_copyRow_34_38 : Nat × zAS × zRK := (3, ([(0, 0), (0, 2147483647), (104, 104), (0, 0), (3, 3)], [(0, (9, 1, 0)), (1, (0, 2, 0)), (2, (0, 3, 0)), (3, (0, 4, 0)), (4, (0, 0, 39))], [], [], []), (10991817742876737, [(0, (-1))]))
def zma_X12_copyRow_34_39 : Nat × zAS × zRK := (3, ([(0, 0), (0, 2147483647), (104, 104), (0, 0), (3, 3)], [(0, (9, 1, 0)), (1, (0, 2, 0)), (2, (0, 3, 0)), (3, (0, 4, 0)), (4, (0, 0, 4))], [], [], []), (10991817742876772, [(0, (-1))]))
def zma_X12_copyRow_34_40 : Nat × zAS × zRK := (3, ([(0, 0), (0, 2147483647), (104, 104), (0, 0), (3, 3)], [(0, (9, 1, 0)), (1, (0, 2, 0)), (2, (0, 3, 0)), (3, (0, 4, 0)), (4, (0, 0, 40))], [], [], []), (10991817742876736, [(0, (-1))]))
def zma_X12_copyRow_34_41 : Nat × zAS × zRK := (3, ([(0, 0), (0, 2147483647), (104, 104), (0, 0), (3, 3)], [(0, (9, 1, 0)), (1, (0, 2, 0)), (2, (0, 3, 0)), (3, (0, 4, 0)), (4, (0, 0, 41))], [], [], []), (10991817742876735, [(0, (-1))]))
def zma_X12_copyRow_34_42 : Nat × zAS × zRK := (3, ([(0, 0), (0, 2147483647), (104, 104), (0, 0), (3, 3)], [(0, (9, 1, 0)), (1, (0, 2, 0)), (2, (0, 3, 0)), (3, (0, 4, 0)), (4, (0, 0, 42))], [], [], []), (10991817742876734, [(0, (-1))]))
def zma_X12_copyRow_34_43 : Nat × zAS × zRK := (3, ([(0, 0), (0, 2147483647), (104, 104), (0, 0), (3, 3)], [(0, (9, 1, 0)), (1, (0, 2, 0)), (2, (0, 3, 0)), (3, (0, 4, 0)), (4, (0, 0, 43))], [], [], []), (10991817742876733, [(0, (-1))]))
def zma_X12_copyRow_34_44 : Nat × zAS × zRK := (3, ([(0, 0), (0, 2147483647), (104, 104), (0, 0), (3, 3)], [(0, (9, 1, 0)), (1, (0, 2, 0)), (2, (0, 3, 0)), (3, (0, 4, 0)), (4, (0, 0, 44))], [], [], []), (10991817742876732, [(0, (-1))]))
def zma_X12_copyRow_34_45 : Nat × zAS × zRK := (3, ([(0, 0), (0, 2147483647), (104, 104), (0, 0), (3, 3)], [(0, (9, 1, 0)), (1, (0, 2, 0)), (2, (0, 3, 0)), (3, (0, 4, 0)), (4, (0, 0, 45))], [], [], []), (10991817742876731, [(0, (-1))]))
def zma_X12_copyRow_34_46 : Nat × zAS × zRK := (3, ([(0, 0), (0, 2147483647), (104, 104), (0, 0), (3, 3)], [(0, (9, 1, 0)), (1, (0, 2, 0)), (2, (0, 3, 0)), (3, (0, 4, 0)), (4, (0, 0, 46))], [], [], []), (10991817742876730, [(0, (-1))]))
def zma_X12_copyRow_34_47 : Nat × zAS × zRK := (3, ([(0, 0), (0, 2147483647), (104, 104), (0, 0), (3, 3)], [(0, (9, 1, 0)), (1, (0, 2, 0)), (2, (0, 3, 0)), (3, (0, 4, 0)), (4, (0, 0, 47))], [], [], []), (10991817742876729, [(0, (-1))]))
def zma_X12_copyRow_34_48 : Nat × zAS × zRK := (3, ([(0, 0), (0, 2147483647), (104, 104), (0, 0), (3, 3)], [(0, (9, 1, 0)), (1, (0, 2, 0)), (2, (0, 3, 0)), (3, (0, 4, 0)), (4, (0, 0, 48))], [], [], []), (10991817742876728, [(0, (-1))]))
def zma_X12_copyRow_34_49 : Nat × zAS × zRK := (3, ([(0, 0), (0, 2147483647), (104, 104), (0, 0), (3, 3)], [(0, (9, 1, 0)), (1, (0, 2, 0)), (2, (0, 3, 0)), (3, (0, 4, 0)), (4, (0, 0, 49))], [], [], []), (10991817742876727, [(0, (-1))]))
def zma_X12_copyRow_34_50 : Nat × zAS × zRK := (3, ([(0, 0), (0, 2147483647), (104, 104), (0, 0), (3, 3)], [(0, (9, 1, 0)), (1, (0, 2, 0)), (2, (0, 3, 0)), (3, (0, 4, 0)), (4, (0, 0, 5))], [], [], []), (10991817742876771, [(0, (-1))]))
def zma_X12_copyRow_34_51 : Nat × zAS × zRK := (3, ([(0, 0), (0, 2147483647), (104, 104), (0, 0), (3, 3)], [(0, (9, 1, 0)), (1, (0, 2, 0)), (2, (0, 3, 0)), (3, (0, 4, 0)), (4, (0, 0, 50))], [], [], []), (10991817742876726, [(0, (-1))]))
def zma_X12_copyRow_34_52 : Nat × zAS × zRK := (3, ([(0, 0), (0, 2147483647), (104, 104), (0, 0), (3, 3)], [(0, (9, 1, 0)), (1, (0, 2, 0)), (2, (0, 3, 0)), (3, (0, 4, 0)), (4, (0, 0, 51))], [], [], []), (10991817742876725, [(0, (-1))]))
def zma_X12_copyRow_34_53 : Nat × zAS × zRK := (3, ([(0, 0), (0, 2147483647), (104, 104), (0, 0), (3, 3)], [(0, (9, 1, 0)), (1, (0, 2, 0)), (2, (0, 3, 0)), (3, (0, 4, 0)), (4, (0, 0, 52))], [], [], []), (10991817742876724, [(0, (-1))]))
def zma_X12_copyRow_34_54 : Nat × zAS × zRK := (3, ([(0, 0), (0, 2147483647), (104, 104), (0, 0), (3, 3)], [(0, (9, 1, 0)), (1, (0, 2, 0)), (2, (0, 3, 0)), (3, (0, 4, 0)), (4, (0, 0, 53))], [], [], []), (10991817742876723, [(0, (-1))]))
def zma_X12_copyRow_34_55 : Nat × zAS × zRK := (3, ([(0, 0), (0, 2147483647), (104, 104), (0, 0), (3, 3)], [(0, (9, 1, 0)), (1, (0, 2, 0)), (2, (0, 3, 0)), (3, (0, 4, 0)), (4, (0, 0, 54))], [], [], []), (10991817742876722, [(0, (-1))]))
def zma_X12_copyRow_34_56 : Nat × zAS × zRK := (3, ([(0, 0), (0, 2147483647), (104, 104), (0, 0), (3, 3)], [(0, (9, 1, 0)), (1, (0, 2, 0)), (2, (0, 3, 0)), (3, (0, 4, 0)), (4, (0, 0, 55))], [], [], []), (10991817742876721, [(0, (-1))]))
def zma_X12_copyRow_34_57 : Nat × zAS × zRK := (3, ([(0, 0), (0, 2147483647), (104, 104), (0, 0), (3, 3)], [(0, (9, 1, 0)), (1, (0, 2, 0)), (2, (0, 3, 0)), (3, (0, 4, 0)), (4, (0, 0, 56))], [], [], []), (10991817742876720, [(0, (-1))]))
def zma_X12_copyRow_34_58 : Nat × zAS × zRK := (3, ([(0, 0), (0, 2147483647), (104, 104), (0, 0), (3, 3)], [(0, (9, 1, 0)), (1, (0, 2, 0)), (2, (0, 3, 0)), (3, (0, 4, 0)), (4, (0, 0, 57))], [], [], []), (10991817742876719, [(0, (-1))]))
def zma_X12_copyRow_34_59 : Nat × zAS × zRK := (3, ([(0, 0), (0, 2147483647), (104, 104), (0, 0), (3, 3)], [(0, (9, 1, 0)), (1, (0, 2, 0)), (2, (0, 3, 0)), (3, (0, 4, 0)), (4, (0, 0, 58))], [], [], []), (10991817742876718, [(0, (-1))]))
def zma_X12_copyRow_34_60 : Nat × zAS × zRK := (3, ([(0, 0), (0, 2147483647), (104, 104), (0, 0), (3, 3)], [(0, (9, 1, 0)), (1, (0, 2, 0)), (2, (0, 3, 0)), (3, (0, 4, 0)), (4, (0, 0, 59))], [], [], []), (10991817742876717, [(0, (-1))]))
def zma_X12_copyRow_34_61 : Nat × zAS × zRK := (3, ([(0, 0), (0, 2147483647), (104, 104), (0, 0), (3, 3)], [(0, (9, 1, 0)), (1, (0, 2, 0)), (2, (0, 3, 0)), (3, (0, 4, 0)), (4, (0, 0, 6))], [], [], []), (10991817742876770, [(0, (-1))]))
def zma_X12_copyRow_34_62 : Nat × zAS × zRK := (3, ([(0, 0), (0, 2147483647), (104, 104), (0, 0), (3, 3)], [(0, (9, 1, 0)), (1, (0, 2, 0)), (2, (0, 3, 0)), (3, (0, 4, 0)), (4, (0, 0, 60))], [], [], []), (10991817742876716, [(0, (-1))]))
def zma_X12_copyRow_34_63 : Nat × zAS × zRK := (3, ([(0, 0), (0, 2147483647), (104, 104), (0, 0), (3, 3)], [(0, (9, 1, 0)), (1, (0, 2, 0)), (2, (0, 3, 0)), (3, (0, 4, 0)), (4, (0, 0, 61))], [], [], []), (10991817742876715, [(0, (-1))]))
def zma_X12_copyRow_34_64 : Nat × zAS × zRK := (3, ([(0, 0), (0, 2147483647), (104, 104), (0, 0), (3, 3)], [(0, (9, 1, 0)), (1, (0, 2, 0)), (2, (0, 3, 0)), (3, (0, 4, 0)), (4, (0, 0, 62))], [], [], []), (10991817742876714, [(0, (-1))]))
def zma_X12_copyRow_34_65 : Nat × zAS × zRK := (3, ([(0, 0), (0, 2147483647), (104, 104), (0, 0), (3, 3)], [(0, (9, 1, 0)), (1, (0, 2, 0)), (2, (0, 3, 0)), (3, (0, 4, 0)), (4, (0, 0, 63))], [], [], []), (10991817742876713, [(0, (-1))]))
def zma_X12_copyRow_34_66 : Nat × zAS × zRK := (3, ([(0, 0), (0, 2147483647), (104, 104), (0, 0), (3, 3)], [(0, (9, 1, 0)), (1, (0, 2, 0)), (2, (0, 3, 0)), (3, (0, 4, 0)), (4, (0, 0, 64))], [], [], []), (10991817742876712, [(0, (-1))]))
def zma_X12_copyRow_34_67 : Nat × zAS × zRK := (3, ([(0, 0), (0, 2147483647), (104, 104), (0, 0), (3, 3)], [(0, (9, 1, 0)), (1, (0, 2, 0)), (2, (0, 3, 0)), (3, (0, 4, 0)), (4, (0, 0, 65))], [], [], []), (10991817742876711, [(0, (-1))]))
def zma_X12_copyRow_34_68 : Nat × zAS × zRK := (3, ([(0, 0), (0, 2147483647), (104, 104), (0, 0), (3, 3)], [(0, (9, 1, 0)), (1, (0, 2, 0)), (2, (0, 3, 0)), (3, (0, 4, 0)), (4, (0, 0, 66))], [], [], []), (10991817742876710, [(0, (-1))]))
def zma_X12_copyRow_34_69 : Nat × zAS × zRK := (3, ([(0, 0), (0, 2147483647), (104, 104), (0, 0), (3, 3)], [(0, (9, 1, 0)), (1, (0, 2, 0)), (2, (0, 3, 0)), (3, (0, 4, 0)), (4, (0, 0, 67))], [], [], []), (10991817742876709, [(0, (-1))]))
def zma_X12_copyRow_34_70 : Nat × zAS × zRK := (3, ([(0, 0), (0, 2147483647), (104, 104), (0, 0), (3, 3)], [(0, (9, 1, 0)), (1, (0, 2, 0)), (2, (0, 3, 0)), (3, (0, 4, 0)), (4, (0, 0, 68))], [], [], []), (10991817742876708, [(0, (-1))]))
def zma_X12_copyRow_34_71 : Nat × zAS × zRK := (3, ([(0, 0), (0, 2147483647), (104, 104), (0, 0), (3, 3)], [(0, (9, 1, 0)), (1, (0, 2, 0)), (2, (0, 3, 0)), (3, (0, 4, 0)), (4, (0, 0, 69))], [], [], []), (10991817742876707, [(0, (-1))]))
def zma_X12_copyRow_34_72 : Nat × zAS × zRK := (3, ([(0, 0), (0, 2147483647), (104, 104), (0, 0), (3, 3)], [(0, (9, 1, 0)), (1, (0, 2, 0)), (2, (0, 3, 0)), (3, (0, 4, 0)), (4, (0, 0, 7))], [], [], []), (10991817742876769, [(0, (-1))]))
def zma_X12_copyRow_34_73 : Nat × zAS × zRK := (3, ([(0, 0), (0, 2147483647), (104, 104), (0, 0), (3, 3)], [(0, (9, 1, 0)), (1, (0, 2, 0)), (2, (0, 3, 0)), (3, (0, 4, 0)), (4, (0, 0, 70))], [], [], []), (10991817742876706, [(0, (-1))]))
def zma_X12_copyRow_34_74 : Nat × zAS × zRK := (3, ([(0, 0), (0, 2147483647), (104, 104), (0, 0), (3, 3)], [(0, (9, 1, 0)), (1, (0, 2, 0)), (2, (0, 3, 0)), (3, (0, 4, 0)), (4, (0, 0, 71))], [], [], []), (10991817742876705, [(0, (-1))]))
def zma_X12_copyRow_34_75 : Nat × zAS × zRK := (3, ([(0, 0), (0, 2147483647), (104, 104), (0, 0), (3, 3)], [(0, (9, 1, 0)), (1, (0, 2, 0)), (2, (0, 3, 0)), (3, (0, 4, 0)), (4, (0, 0, 72))], [], [], []), (10991817742876704, [(0, (-1))]))
def zma_X12_copyRow_34_76 : Nat × zAS × zRK := (3, ([(0, 0), (0, 2147483647), (104, 104), (0, 0), (3, 3)], [(0, (9, 1, 0)), (1, (0, 2, 0)), (2, (0, 3, 0)), (3, (0, 4, 0)), (4, (0, 0, 73))], [], [], []), (10991817742876703, [(0, (-1))]))
def zma_X12_copyRow_34_77 : Nat × zAS × zRK := (3, ([(0, 0), (0, 2147483647), (104, 104), (0, 0), (3, 3)], [(0, (9, 1, 0)), (1, (0, 2, 0)), (2, (0, 3, 0)), (3, (0, 4, 0)), (4, (0, 0, 74))], [], [], []), (10991817742876702, [(0, (-1))]))
def zma_X12_copyRow_34_78 : Nat × zAS × zRK := (3, ([(0, 0), (0, 2147483647), (104, 104), (0, 0), (3, 3)], [(0, (9, 1, 0)), (1, (0, 2, 0)), (2, (0, 3, 0)), (3, (0, 4, 0)), (4, (0, 0, 75))], [], [], []), (10991817742876701, [(0, (-1))]))
def zma_X12_copyRow_34_79 : Nat × zAS × zRK := (3, ([(0, 0), (0, 2147483647), (104, 104), (0, 0), (3, 3)], [(0, (9, 1, 0)), (1, (0, 2, 0)), (2, (0, 3, 0)), (3, (0, 4, 0)), (4, (0, 0, 76))], [], [], []), (10991817742876700, [(0, (-1))]))
def zma_X12_copyRow_34_80 : Nat × zAS × zRK := (3, ([(0, 0), (0, 2147483647), (104, 104), (0, 0), (3, 3)], [(0, (9, 1, 0)), (1, (0, 2, 0)), (2, (0, 3, 0)), (3, (0, 4, 0)), (4, (0, 0, 77))], [], [], []), (10991817742876699, [(0, (-1))]))
def zma_X12_copyRow_34_81 : Nat × zAS × zRK := (3, ([(0, 0), (0, 2147483647), (104, 104), (0, 0), (3, 3)], [(0, (9, 1, 0)), (1, (0, 2, 0)), (2, (0, 3, 0)), (3, (0, 4, 0)), (4, (0, 0, 78))], [], [], []), (10991817742876698, [(0, (-1))]))
def zma_X12_copyRow_34_82 : Nat × zAS × zRK := (3, ([(0, 0), (0, 2147483647), (104, 104), (0, 0), (3, 3)], [(0, (9, 1, 0)), (1, (0, 2, 0)), (2, (0, 3, 0)), (3, (0, 4, 0)), (4, (0, 0, 79))], [], [], []), (10991817742876697, [(0, (-1))]))
def zma_X12_copyRow_34_83 : Nat × zAS × zRK := (3, ([(0, 0), (0, 2147483647), (104, 104), (0, 0), (3, 3)], [(0, (9, 1, 0)), (1, (0, 2, 0)), (2, (0, 3, 0)), (3, (0, 4, 0)), (4, (0, 0, 8))], [], [], []), (10991817742876768, [(0, (-1))]))
def zma_X12_copyRow_34_84 : Nat × zAS × zRK := (3, ([(0, 0), (0, 2147483647), (104, 104), (0, 0), (3, 3)], [(0, (9, 1, 0)), (1, (0, 2, 0)), (2, (0, 3, 0)), (3, (0, 4, 0)), (4, (0, 0, 80))], [], [], []), (10991817742876696, [(0, (-1))]))
def zma_X12_copyRow_34_85 : Nat × zAS × zRK := (3, ([(0, 0), (0, 2147483647), (104, 104), (0, 0), (3, 3)], [(0, (9, 1, 0)), (1, (0, 2, 0)), (2, (0, 3, 0)), (3, (0, 4, 0)), (4, (0, 0, 81))], [], [], []), (10991817742876695, [(0, (-1))]))
def zma_X12_copyRow_34_86 : Nat × zAS × zRK := (3, ([(0, 0), (0, 2147483647), (104, 104), (0, 0), (3, 3)], [(0, (9, 1, 0)), (1, (0, 2, 0)), (2, (0, 3, 0)), (3, (0, 4, 0)), (4, (0, 0, 82))], [], [], []), (10991817742876694, [(0, (-1))]))
def zma_X12_copyRow_34_87 : Nat × zAS × zRK := (3, ([(0, 0), (0, 2147483647), (104, 104), (0, 0), (3, 3)], [(0, (9, 1, 0)), (1, (0, 2, 0)), (2, (0, 3, 0)), (3, (0, 4, 0)), (4, (0, 0, 83))], [], [], []), (10991817742876693, [(0, (-1))]))
def zma_X12_copyRow_34_88 : Nat × zAS × zRK := (3, ([(0, 0), (0, 2147483647), (104, 104), (0, 0), (3, 3)], [(0, (9, 1, 0)), (1, (0, 2, 0)), (2, (0, 3, 0)), (3, (0, 4, 0)), (4, (0, 0, 84))], [], [], []), (10991817742876692, [(0, (-1))]))
def zma_X12_copyRow_34_89 : Nat × zAS × zRK := (3, ([(0, 0), (0, 2147483647), (104, 104), (0, 0), (3, 3)], [(0, (9, 1, 0)), (1, (0, 2, 0)), (2, (0, 3, 0)), (3, (0, 4, 0)), (4, (0, 0, 85))], [], [], []), (10991817742876691, [(0, (-1))]))
def zma_X12_copyRow_34_90 : Nat × zAS × zRK := (3, ([(0, 0), (0, 2147483647), (104, 104), (0, 0), (3, 3)], [(0, (9, 1, 0)), (1, (0, 2, 0)), (2, (0, 3, 0)), (3, (0, 4, 0)), (4, (0, 0, 86))], [], [], []), (10991817742876690, [(0, (-1))]))
def zma_X12_copyRow_34_91 : Nat × zAS × zRK := (3, ([(0, 0), (0, 2147483647), (104, 104), (0, 0), (3, 3)], [(0, (9, 1, 0)), (1, (0, 2, 0)), (2, (0, 3, 0)), (3, (0, 4, 0)), (4, (0, 0, 87))], [], [], []), (10991817742876689, [(0, (-1))]))
def zma_X12_copyRow_34_92 : Nat × zAS × zRK := (3, ([(0, 0), (0, 2147483647), (104, 104), (0, 0), (3, 3)], [(0, (9, 1, 0)), (1, (0, 2, 0)), (2, (0, 3, 0)), (3, (0, 4, 0)), (4, (0, 0, 88))], [], [], []), (10991817742876688, [(0, (-1))]))
def zma_X12_copyRow_34_93 : Nat × zAS × zRK := (3, ([(0, 0), (0, 2147483647), (104, 104), (0, 0), (3, 3)], [(0, (9, 1, 0)), (1, (0, 2, 0)), (2, (0, 3, 0)), (3, (0, 4, 0)), (4, (0, 0, 89))], [], [], []), (10991817742876687, [(0, (-1))]))
def zma_X12_copyRow_34_94 : Nat × zAS × zRK := (3, ([(0, 0), (0, 2147483647), (104, 104), (0, 0), (3, 3)], [(0, (9, 1, 0)), (1, (0, 2, 0)), (2, (0, 3, 0)), (3, (0, 4, 0)), (4, (0, 0, 9))], [], [], []), (10991817742876767, [(0, (-1))]))
def zma_X12_copyRow_34_95 : Nat × zAS × zRK := (3, ([(0, 0), (0, 2147483647), (104, 104), (0, 0), (3, 3)], [(0, (9, 1, 0)), (1, (0, 2, 0)), (2, (0, 3, 0)), (3, (0, 4, 0)), (4, (0, 0, 90))], [], [], []), (10991817742876686, [(0, (-1))]))
def zma_X12_copyRow_34_96 : Nat × zAS × zRK := (3, ([(0, 0), (0, 2147483647), (104, 104), (0, 0), (3, 3)], [(0, (9, 1, 0)), (1, (0, 2, 0)), (2, (0, 3, 0)), (3, (0, 4, 0)), (4, (0, 0, 91))], [], [], []), (10991817742876685, [(0, (-1))]))
def zma_X12_copyRow_34_97 : Nat × zAS × zRK := (3, ([(0, 0), (0, 2147483647), (104, 104), (0, 0), (3, 3)], [(0, (9, 1, 0)), (1, (0, 2, 0)), (2, (0, 3, 0)), (3, (0, 4, 0)), (4, (0, 0, 92))], [], [], []), (10991817742876684, [(0, (-1))]))
def zma_X12_copyRow_34_98 : Nat × zAS × zRK := (3, ([(0, 0), (0, 2147483647), (104, 104), (0, 0), (3, 3)], [(0, (9, 1, 0)), (1, (0, 2, 0)), (2, (0, 3, 0)), (3, (0, 4, 0)), (4, (0, 0, 93))], [], [], []), (10991817742876683, [(0, (-1))]))
def zma_X12_copyRow_34_99 : Nat × zAS × zRK := (3, ([(0, 0), (0, 2147483647), (104, 104), (0, 0), (3, 3)], [(0, (9, 1, 0)), (1, (0, 2, 0)), (2, (0, 3, 0)), (3, (0, 4, 0)), (4, (0, 0, 94))], [], [], []), (10991817742876682, [(0, (-1))]))
def zma_X12_copyRow_34_100 : Nat × zAS × zRK := (3, ([(0, 0), (0, 2147483647), (104, 104), (0, 0), (3, 3)], [(0, (9, 1, 0)), (1, (0, 2, 0)), (2, (0, 3, 0)), (3, (0, 4, 0)), (4, (0, 0, 95))], [], [], []), (10991817742876681, [(0, (-1))]))
def zma_X12_copyRow_34_101 : Nat × zAS × zRK := (3, ([(0, 0), (0, 2147483647), (104, 104), (0, 0), (3, 3)], [(0, (9, 1, 0)), (1, (0, 2, 0)), (2, (0, 3, 0)), (3, (0, 4, 0)), (4, (0, 0, 96))], [], [], []), (10991817742876680, [(0, (-1))]))
def zma_X12_copyRow_34_102 : Nat × zAS × zRK := (3, ([(0, 0), (0, 2147483647), (104, 104), (0, 0), (3, 3)], [(0, (9, 1, 0)), (1, (0, 2, 0)), (2, (0, 3, 0)), (3, (0, 4, 0)), (4, (0, 0, 97))], [], [], []), (10991817742876679, [(0, (-1))]))
def zma_X12_copyRow_34_103 : Nat × zAS × zRK := (3, ([(0, 0), (0, 2147483647), (104, 104), (0, 0), (3, 3)], [(0, (9, 1, 0)), (1, (0, 2, 0)), (2, (0, 3, 0)), (3, (0, 4, 0)), (4, (0, 0, 98))], [], [], []), (10991817742876678, [(0, (-1))]))
def zma_X12_copyRow_34_104 : Nat × zAS × zRK := (3, ([(0, 0), (0, 2147483647), (104, 104), (0, 0), (3, 3)], [(0, (9, 1, 0)), (1, (0, 2, 0)), (2, (0, 3, 0)), (3, (0, 4, 0)), (4, (0, 0, 99))], [], [], []), (10991817742876677, [(0, (-1))]))
def zm_X12_copyRow_34 : zMD := (zc_X12_copyRow, [], ([], []), [], [], [zma_X12_copyRow_34_0, zma_X12_copyRow_34_1, zma_X12_copyRow_34_2, zma_X12_copyRow_34_3, zma_X12_copyRow_34_4, zma_X12_copyRow_34_5, zma_X12_copyRow_34_6, zma_X12_copyRow_34_7, zma_X12_copyRow_34_8, zma_X12_copyRow_34_9, zma_X12_copyRow_34_10, zma_X12_copyRow_34_11, zma_X12_copyRow_34_12, zma_X12_copyRow_34_13, zma_X12_copyRow_34_14, zma_X12_copyRow_34_15, zma_X12_copyRow_34_16, zma_X12_copyRow_34_17, zma_X12_copyRow_34_18, zma_X12_copyRow_34_19, zma_X12_copyRow_34_20, zma_X12_copyRow_34_21, zma_X12_copyRow_34_22, zma_X12_copyRow_34_23, zma_X12_copyRow_34_24, zma_X12_copyRow_34_25, zma_X12_copyRow_34_26, zma_X12_copyRow_34_27, zma_X12_copyRow_34_28, zma_X12_copyRow_34_29, zma_X12_copyRow_34_30, zma_X12_copyRow_34_31, zma_X12_copyRow_34_32, zma_X12_copyRow_34_33, zma_X12_copyRow_34_34, zma_X12_copyRow_34_35, zma_X12_copyRow_34_36, zma_X12_copyRow_34_37, zma_X12_copyRow_34_38, zma_X12_copyRow_34_39, zma_X12_copyRow_34_40, zma_X12_copyRow_34_41, zma_X12_copyRow_34_42, zma_X12_copyRow_34_43, zma_X12_copyRow_34_44, zma_X12_copyRow_34_45, zma_X12_copyRow_34_46, zma_X12_copyRow_34_47, zma_X12_copyRow_34_48, zma_X12_copyRow_34_49, zma_X12_copyRow_34_50, zma_X12_copyRow_34_51, zma_X12_copyRow_34_52, zma_X12_copyRow_34_53, zma_X12_copyRow_34_54, zma_X12_copyRow_34_55, zma_X12_copyRow_34_56, zma_X12_copyRow_34_57, zma_X12_copyRow_34_58, zma_X12_copyRow_34_59, zma_X12_copyRow_34_60, zma_X12_copyRow_34_61, zma_X12_copyRow_34_62, zma_X12_copyRow_34_63, zma_X12_copyRow_34_64, zma_X12_copyRow_34_65, zma_X12_copyRow_34_66, zma_X12_copyRow_34_67, zma_X12_copyRow_34_68, zma_X12_copyRow_34_69, zma_X12_copyRow_34_70, zma_X12_copyRow_34_71, zma_X12_copyRow_34_72, zma_X12_copyRow_34_73, zma_X12_copyRow_34_74, zma_X12_copyRow_34_75, zma_X12_copyRow_34_76, zma_X12_copyRow_34_77, zma_X12_copyRow_34_78, zma_X12_copyRow_34_79, zma_X12_copyRow_34_80, zma_X12_copyRow_34_81, zma_X12_copyRow_34_82, zma_X12_copyRow_34_83, zma_X12_copyRow_34_84, zma_X12_copyRow_34_85, zma_X12_copyRow_34_86, zma_X12_copyRow_34_87, zma_X12_copyRow_34_88, zma_X12_copyRow_34_89, zma_X12_copyRow_34_90, zma_X12_copyRow_34_91, zma_X12_copyRow_34_92, zma_X12_copyRow_34_93, zma_X12_copyRow_34_94, zma_X12_copyRow_34_95, zma_X12_copyRow_34_96, zma_X12_copyRow_34_97, zma_X12_copyRow_34_98, zma_X12_copyRow_34_99, zma_X12_copyRow_34_100, zma_X12_copyRow_34_101, zma_X12_copyRow_34_102, zma_X12_copyRow_34_103, zma_X12_copyRow_34_104], [])
set_option maxRecDepth 100000 in
theorem zvs_X12_copyRow_34 : zmst zkdm zk_X12_copyRow_34 zm_X12_copyRow_34 200000 10991817742876777 = true := by decide +kernel
set_option maxRecDepth 100000 in
theorem zvm_X12_copyRow_34_0 : zmk zkdm zk_X12_copyRow_34 zm_X12_copyRow_34 200000 zma_X12_copyRow_34_0 = true := by decide +kernel
set_option maxRecDepth 100000 in
theorem zvm_X12_copyRow_34_1 : zmk zkdm zk_X12_copyRow_34 zm_X12_copyRow_34 200000 zma_X12_copyRow_34_1 = true := by decide +kernel
set_option maxRecDepth 100000 in
theorem zvm_X12_copyRow_34_2 : zmk zkdm zk_X12_copyRow_34 zm_X12_copyRow_34 200000 zma_X12_copyRow_34_2 = true := by decide +kernel
set_option maxRecDepth 100000 in
theorem zvm_X12_copyRow_34_3 : zmk zkdm zk_X12_copyRow_34 zm_X12_copyRow_34 200000 zma_X12_copyRow_34_3 = true := by decide +kernel
set_option maxRecDepth 100000 in
theorem zvm_X12_copyRow_34_4 : zmk zkdm zk_X12_copyRow_34 zm_X12_copyRow_34 200000 zma_X12_copyRow_34_4 = true := by decide +kernel
set_option maxRecDepth 100000 in
theorem zvm_X12_copyRow_34_5 : zmk zkdm zk_X12_copyRow_34 zm_X12_copyRow_34 200000 zma_X12_copyRow_34_5 = true := by decide +kernel
set_option maxRecDepth 100000 in
theorem zvm_X12_copyRow_34_6 : zmk zkdm zk_X12_copyRow_34 zm_X12_copyRow_34 200000 zma_X12_copyRow_34_6 = true := by decide +kernel
set_option maxRecDepth 100000 in
theorem zvm_X12_copyRow_34_7 : zmk zkdm zk_X12_copyRow_34 zm_X12_copyRow_34 200000 zma_X12_copyRow_34_7 = true := by decide +kernel
set_option maxRecDepth 100000 in
theorem zvm_X12_copyRow_34_8 : zmk zkdm zk_X12_copyRow_34 zm_X12_copyRow_34 200000 zma_X12_copyRow_34_8 = true := by decide +kernel
set_option maxRecDepth 100000 in
theorem zvm_X12_copyRow_34_9 : zmk zkdm zk_X12_copyRow_34 zm_X12_copyRow_34 200000 zma_X12_copyRow_34_9 = true := by decide +kernel
set_option maxRecDepth 100000 in
theorem zvm_X12_copyRow_34_10 : zmk zkdm zk_X12_copyRow_34 zm_X12_copyRow_34 200000 zma_X12_copyRow_34_10 = true := by decide +kernel
set_option maxRecDepth 100000 in
theorem zvm_X12_copyRow_34_11 : zmk zkdm zk_X12_copyRow_34 zm_X12_copyRow_34 200000 zma_X12_copyRow_34_11 = true := by decide +kernel
set_option maxRecDepth 100000 in
theorem zvm_X12_copyRow_34_12 : zmk zkdm zk_X12_copyRow_34 zm_X12_copyRow_34 200000 zma_X12_copyRow_34_12 = true := by decide +kernel
set_option maxRecDepth 100000 in
theorem zvm_X12_copyRow_34_13 : zmk zkdm zk_X12_copyRow_34 zm_X12_copyRow_34 200000 zma_X12_copyRow_34_13 = true := by decide +kernel
set_option maxRecDepth 100000 in
theorem zvm_X12_copyRow_34_14 : zmk zkdm zk_X12_copyRow_34 zm_X12_copyRow_34 200000 zma_X12_copyRow_34_14 = true := by decide +kernel
set_option maxRecDepth 100000 in
theorem zvm_X12_copyRow_34_15 : zmk zkdm zk_X12_copyRow_34 zm_X12_copyRow_34 200000 zma_X12_copyRow_34_15 = true := by decide +kernel
set_option maxRecDepth 100000 in
theorem zvm_X12_copyRow_34_16 : zmk zkdm zk_X12_copyRow_34 zm_X12_copyRow_34 200000 zma_X12_copyRow_34_16 = true := by decide +kernel
set_option maxRecDepth 100000 in
theorem zvm_X12_copyRow_34_17 : zmk zkdm zk_X12_copyRow_34 zm_X12_copyRow_34 200000 zma_X12_copyRow_34_17 = true := by decide +kernel
set_option maxRecDepth 100000 in
theorem zvm_X12_copyRow_34_18 : zmk zkdm zk_X12_copyRow_34 zm_X12_copyRow_34 200000 zma_X12_copyRow_34_18 = true := by decide +kernel
set_option maxRecDepth 100000 in
theorem zvm_X12_copyRow_34_19 : zmk zkdm zk_X12_copyRow_34 zm_X12_copyRow_34 200000 zma_X12_copyRow_34_19 = true := by decide +kernel
set_option maxRecDepth 100000 in
theorem zvm_X12_copyRow_34_20 : zmk zkdm zk_X12_copyRow_34 zm_X12_copyRow_34 200000 zma_X12_copyRow_34_20 = true := by decide +kernel
set_option maxRecDepth 100000 in
theorem zvm_X12_copyRow_34_21 : zmk zkdm zk_X12_copyRow_34 zm_X12_copyRow_34 200000 zma_X12_copyRow_34_21 = true := by decide +kernel
set_option maxRecDepth 100000 in
theorem zvm_X12_copyRow_34_22 : zmk zkdm zk_X12_copyRow_34 zm_X12_copyRow_34 200000 zma_X12_copyRow_34_22 = true := by decide +kernel
set_option maxRecDepth 100000 in
theorem zvm_X12_copyRow_34_23 : zmk zkdm zk_X12_copyRow_34 zm_X12_copyRow_34 200000 zma_X12_copyRow_34_23 = true := by decide +kernel
set_option maxRecDepth 100000 in
theorem zvm_X12_copyRow_34_24 : zmk zkdm zk_X12_copyRow_34 zm_X12_copyRow_34 200000 zma_X12_copyRow_34_24 = true := by decide +kernel
set_option maxRecDepth 100000 in
theorem zvm_X12_copyRow_34_25 : zmk zkdm zk_X12_copyRow_34 zm_X12_copyRow_34 200000 zma_X12_copyRow_34_25 = true := by decide +kernel
set_option maxRecDepth 100000 in
theorem zvm_X12_copyRow_34_26 : zmk zkdm zk_X12_copyRow_34 zm_X12_copyRow_34 200000 zma_X12_copyRow_34_26 = true := by decide +kernel
set_option maxRecDepth 100000 in
theorem zvm_X12_copyRow_34_27 : zmk zkdm zk_X12_copyRow_34 zm_X12_copyRow_34 200000 zma_X12_copyRow_34_27 = true := by decide +kernel
set_option maxRecDepth 100000 in
theorem zvm_X12_copyRow_34_28 : zmk zkdm zk_X12_copyRow_34 zm_X12_copyRow_34 200000 zma_X12_copyRow_34_28 = true := by decide +kernel
set_option maxRecDepth 100000 in
theorem zvm_X12_copyRow_34_29 : zmk zkdm zk_X12_copyRow_34 zm_X12_copyRow_34 200000 zma_X12_copyRow_34_29 = true := by decide +kernel
set_option maxRecDepth 100000 in
theorem zvm_X12_copyRow_34_30 : zmk zkdm zk_X12_copyRow_34 zm_X12_copyRow_34 200000 zma_X12_copyRow_34_30 = true := by decide +kernel
set_option maxRecDepth 100000 in
theorem zvm_X12_copyRow_34_31 : zmk zkdm zk_X12_copyRow_34 zm_X12_copyRow_34 200000 zma_X12_copyRow_34_31 = true := by decide +kernel
set_option maxRecDepth 100000 in
theorem zvm_X12_copyRow_34_32 : zmk zkdm zk_X12_copyRow_34 zm_X12_copyRow_34 200000 zma_X12_copyRow_34_32 = true := by decide +kernel
set_option maxRecDepth 100000 in
theorem zvm_X12_copyRow_34_33 : zmk zkdm zk_X12_copyRow_34 zm_X12_copyRow_34 200000 zma_X12_copyRow_34_33 = true := by decide +kernel
set_option maxRecDepth 100000 in
theorem zvm_X12_copyRow_34_34 : zmk zkdm zk_X12_copyRow_34 zm_X12_copyRow_34 200000 zma_X12_copyRow_34_34 = true := by decide +kernel
set_option maxRecDepth 100000 in
theorem zvm_X12_copyRow_34_35 : zmk zkdm zk_X12_copyRow_34 zm_X12_copyRow_34 200000 zma_X12_copyRow_34_35 = true := by decide +kernel
set_option maxRecDepth 100000 in
theorem zvm_X12_copyRow_34_36 : zmk zkdm zk_X12_copyRow_34 zm_X12_copyRow_34 200000 zma_X12_copyRow_34_36 = true := by decide +kernel
set_option maxRecDepth 100000 in
theorem zvm_X12_copyRow_34_37 : zmk zkdm zk_X12_copyRow_34 zm_X12_copyRow_34 200000 zma_X12_copyRow_34_37 = true := by decide +kernel
set_option maxRecDepth 100000 in
theorem zvm_X12_copyRow_34_38 : zmk zkdm zk_X12_copyRow_34 zm_X12_copyRow_34 200000 zma_X12_copyRow_34_38 = true := by decide +kernel
set_option maxRecDepth 100000 in
theorem zvm_X12_copyRow_34_39 : zmk zkdm zk_X12_copyRow_34 zm_X12_copyRow_34 200000 zma_X12_copyRow_34_39 = true := by decide +kernel
set_option maxRecDepth 100000 in
theorem zvm_X12_copyRow_34_40 : zmk zkdm zk_X12_copyRow_34 zm_X12_copyRow_34 200000 zma_X12_copyRow_34_40 = true := by decide +kernel
set_option maxRecDepth 100000 in
theorem zvm_X12_copyRow_34_41 : zmk zkdm zk_X12_copyRow_34 zm_X12_copyRow_34 200000 zma_X12_copyRow_34_41 = true := by decide +kernel
set_option maxRecDepth 100000 in
theorem zvm_X12_copyRow_34_42 : zmk zkdm zk_X12_copyRow_34 zm_X12_copyRow_34 200000 zma_X12_copyRow_34_42 = true := by decide +kernel
set_option maxRecDepth 100000 in
theorem zvm_X12_copyRow_34_43 : zmk zkdm zk_X12_copyRow_34 zm_X12_copyRow_34 200000 zma_X12_copyRow_34_43 = true := by decide +kernel
set_option maxRecDepth 100000 in
theorem zvm_X12_copyRow_34_44 : zmk zkdm zk_X12_copyRow_34 zm_X12_copyRow_34 200000 zma_X12_copyRow_34_44 = true := by decide +kernel
set_option maxRecDepth 100000 in
theorem zvm_X12_copyRow_34_45 : zmk zkdm zk_X12_copyRow_34 zm_X12_copyRow_34 200000 zma_X12_copyRow_34_45 = true := by decide +kernel
set_option maxRecDepth 100000 in
theorem zvm_X12_copyRow_34_46 : zmk zkdm zk_X12_copyRow_34 zm_X12_copyRow_34 200000 zma_X12_copyRow_34_46 = true := by decide +kernel
set_option maxRecDepth 100000 in
theorem zvm_X12_copyRow_34_47 : zmk zkdm zk_X12_copyRow_34 zm_X12_copyRow_34 200000 zma_X12_copyRow_34_47 = true := by decide +kernel
set_option maxRecDepth 100000 in
theorem zvm_X12_copyRow_34_48 : zmk zkdm zk_X12_copyRow_34 zm_X12_copyRow_34 200000 zma_X12_copyRow_34_48 = true := by decide +kernel
set_option maxRecDepth 100000 in
theorem zvm_X12_copyRow_34_49 : zmk zkdm zk_X12_copyRow_34 zm_X12_copyRow_34 200000 zma_X12_copyRow_34_49 = true := by decide +kernel
set_option maxRecDepth 100000 in
theorem zvm_X12_copyRow_34_50 : zmk zkdm zk_X12_copyRow_34 zm_X12_copyRow_34 200000 zma_X12_copyRow_34_50 = true := by decide +kernel
set_option maxRecDepth 100000 in
theorem zvm_X12_copyRow_34_51 : zmk zkdm zk_X12_copyRow_34 zm_X12_copyRow_34 200000 zma_X12_copyRow_34_51 = true := by decide +kernel
set_option maxRecDepth 100000 in
theorem zvm_X12_copyRow_34_52 : zmk zkdm zk_X12_copyRow_34 zm_X12_copyRow_34 200000 zma_X12_copyRow_34_52 = true := by decide +kernel
set_option maxRecDepth 100000 in
theorem zvm_X12_copyRow_34_53 : zmk zkdm zk_X12_copyRow_34 zm_X12_copyRow_34 200000 zma_X12_copyRow_34_53 = true := by decide +kernel
set_option maxRecDepth 100000 in
theorem zvm_X12_copyRow_34_54 : zmk zkdm zk_X12_copyRow_34 zm_X12_copyRow_34 200000 zma_X12_copyRow_34_54 = true := by decide +kernel
set_option maxRecDepth 100000 in
theorem zvm_X12_copyRow_34_55 : zmk zkdm zk_X12_copyRow_34 zm_X12_copyRow_34 200000 zma_X12_copyRow_34_55 = true := by decide +kernel
set_option maxRecDepth 100000 in
theorem zvm_X12_copyRow_34_56 : zmk zkdm zk_X12_copyRow_34 zm_X12_copyRow_34 200000 zma_X12_copyRow_34_56 = true := by decide +kernel
set_option maxRecDepth 100000 in
theorem zvm_X12_copyRow_34_57 : zmk zkdm zk_X12_copyRow_34 zm_X12_copyRow_34 200000 zma_X12_copyRow_34_57 = true := by decide +kernel
set_option maxRecDepth 100000 in
theorem zvm_X12_copyRow_34_58 : zmk zkdm zk_X12_copyRow_34 zm_X12_copyRow_34 200000 zma_X12_copyRow_34_58 = true := by decide +kernel
set_option maxRecDepth 100000 in
theorem zvm_X12_copyRow_34_59 : zmk zkdm zk_X12_copyRow_34 zm_X12_copyRow_34 200000 zma_X12_copyRow_34_59 = true := by decide +kernel
set_option maxRecDepth 100000 in
theorem zvm_X12_copyRow_34_60 : zmk zkdm zk_X12_copyRow_34 zm_X12_copyRow_34 200000 zma_X12_copyRow_34_60 = true := by decide +kernel
set_option maxRecDepth 100000 in
theorem zvm_X12_copyRow_34_61 : zmk zkdm zk_X12_copyRow_34 zm_X12_copyRow_34 200000 zma_X12_copyRow_34_61 = true := by decide +kernel
set_option maxRecDepth 100000 in
theorem zvm_X12_copyRow_34_62 : zmk zkdm zk_X12_copyRow_34 zm_X12_copyRow_34 200000 zma_X12_copyRow_34_62 = true := by decide +kernel
set_option maxRecDepth 100000 in
theorem zvm_X12_copyRow_34_63 : zmk zkdm zk_X12_copyRow_34 zm_X12_copyRow_34 200000 zma_X12_copyRow_34_63 = true := by decide +kernel
set_option maxRecDepth 100000 in
theorem zvm_X12_copyRow_34_64 : zmk zkdm zk_X12_copyRow_34 zm_X12_copyRow_34 200000 zma_X12_copyRow_34_64 = true := by decide +kernel
set_option maxRecDepth 100000 in
theorem zvm_X12_copyRow_34_65 : zmk zkdm zk_X12_copyRow_34 zm_X12_copyRow_34 200000 zma_X12_copyRow_34_65 = true := by decide +kernel
set_option maxRecDepth 100000 in
theorem zvm_X12_copyRow_34_66 : zmk zkdm zk_X12_copyRow_34 zm_X12_copyRow_34 200000 zma_X12_copyRow_34_66 = true := by decide +kernel
set_option maxRecDepth 100000 in
theorem zvm_X12_copyRow_34_67 : zmk zkdm zk_X12_copyRow_34 zm_X12_copyRow_34 200000 zma_X12_copyRow_34_67 = true := by decide +kernel
set_option maxRecDepth 100000 in
theorem zvm_X12_copyRow_34_68 : zmk zkdm zk_X12_copyRow_34 zm_X12_copyRow_34 200000 zma_X12_copyRow_34_68 = true := by decide +kernel
set_option maxRecDepth 100000 in
theorem zvm_X12_copyRow_34_69 : zmk zkdm zk_X12_copyRow_34 zm_X12_copyRow_34 200000 zma_X12_copyRow_34_69 = true := by decide +kernel
set_option maxRecDepth 100000 in
theorem zvm_X12_copyRow_34_70 : zmk zkdm zk_X12_copyRow_34 zm_X12_copyRow_34 200000 zma_X12_copyRow_34_70 = true := by decide +kernel
set_option maxRecDepth 100000 in
theorem zvm_X12_copyRow_34_71 : zmk zkdm zk_X12_copyRow_34 zm_X12_copyRow_34 200000 zma_X12_copyRow_34_71 = true := by decide +kernel
set_option maxRecDepth 100000 in
theorem zvm_X12_copyRow_34_72 : zmk zkdm zk_X12_copyRow_34 zm_X12_copyRow_34 200000 zma_X12_copyRow_34_72 = true := by decide +kernel
set_option maxRecDepth 100000 in
theorem zvm_X12_copyRow_34_73 : zmk zkdm zk_X12_copyRow_34 zm_X12_copyRow_34 200000 zma_X12_copyRow_34_73 = true := by decide +kernel
set_option maxRecDepth 100000 in
theorem zvm_X12_copyRow_34_74 : zmk zkdm zk_X12_copyRow_34 zm_X12_copyRow_34 200000 zma_X12_copyRow_34_74 = true := by decide +kernel
set_option maxRecDepth 100000 in
theorem zvm_X12_copyRow_34_75 : zmk zkdm zk_X12_copyRow_34 zm_X12_copyRow_34 200000 zma_X12_copyRow_34_75 = true := by decide +kernel
set_option maxRecDepth 100000 in
theorem zvm_X12_copyRow_34_76 : zmk zkdm zk_X12_copyRow_34 zm_X12_copyRow_34 200000 zma_X12_copyRow_34_76 = true := by decide +kernel
set_option maxRecDepth 100000 in
theorem zvm_X12_copyRow_34_77 : zmk zkdm zk_X12_copyRow_34 zm_X12_copyRow_34 200000 zma_X12_copyRow_34_77 = true := by decide +kernel
set_option maxRecDepth 100000 in
theorem zvm_X12_copyRow_34_78 : zmk zkdm zk_X12_copyRow_34 zm_X12_copyRow_34 200000 zma_X12_copyRow_34_78 = true := by decide +kernel
set_option maxRecDepth 100000 in
theorem zvm_X12_copyRow_34_79 : zmk zkdm zk_X12_copyRow_34 zm_X12_copyRow_34 200000 zma_X12_copyRow_34_79 = true := by decide +kernel
set_option maxRecDepth 100000 in
theorem zvm_X12_copyRow_34_80 : zmk zkdm zk_X12_copyRow_34 zm_X12_copyRow_34 200000 zma_X12_copyRow_34_80 = true := by decide +kernel
set_option maxRecDepth 100000 in
theorem zvm_X12_copyRow_34_81 : zmk zkdm zk_X12_copyRow_34 zm_X12_copyRow_34 200000 zma_X12_copyRow_34_81 = true := by decide +kernel
set_option maxRecDepth 100000 in
theorem zvm_X12_copyRow_34_82 : zmk zkdm zk_X12_copyRow_34 zm_X12_copyRow_34 200000 zma_X12_copyRow_34_82 = true := by decide +kernel
set_option maxRecDepth 100000 in
theorem zvm_X12_copyRow_34_83 : zmk zkdm zk_X12_copyRow_34 zm_X12_copyRow_34 200000 zma_X12_copyRow_34_83 = true := by decide +kernel
set_option maxRecDepth 100000 in
theorem zvm_X12_copyRow_34_84 : zmk zkdm zk_X12_copyRow_34 zm_X12_copyRow_34 200000 zma_X12_copyRow_34_84 = true := by decide +kernel
set_option maxRecDepth 100000 in
theorem zvm_X12_copyRow_34_85 : zmk zkdm zk_X12_copyRow_34 zm_X12_copyRow_34 200000 zma_X12_copyRow_34_85 = true := by decide +kernel
set_option maxRecDepth 100000 in
theorem zvm_X12_copyRow_34_86 : zmk zkdm zk_X12_copyRow_34 zm_X12_copyRow_34 200000 zma_X12_copyRow_34_86 = true := by decide +kernel
set_option maxRecDepth 100000 in
theorem zvm_X12_copyRow_34_87 : zmk zkdm zk_X12_copyRow_34 zm_X12_copyRow_34 200000 zma_X12_copyRow_34_87 = true := by decide +kernel
set_option maxRecDepth 100000 in
theorem zvm_X12_copyRow_34_88 : zmk zkdm zk_X12_copyRow_34 zm_X12_copyRow_34 200000 zma_X12_copyRow_34_88 = true := by decide +kernel
set_option maxRecDepth 100000 in
theorem zvm_X12_copyRow_34_89 : zmk zkdm zk_X12_copyRow_34 zm_X12_copyRow_34 200000 zma_X12_copyRow_34_89 = true := by decide +kernel
set_option maxRecDepth 100000 in
theorem zvm_X12_copyRow_34_90 : zmk zkdm zk_X12_copyRow_34 zm_X12_copyRow_34 200000 zma_X12_copyRow_34_90 = true := by decide +kernel
set_option maxRecDepth 100000 in
theorem zvm_X12_copyRow_34_91 : zmk zkdm zk_X12_copyRow_34 zm_X12_copyRow_34 200000 zma_X12_copyRow_34_91 = true := by decide +kernel
set_option maxRecDepth 100000 in
theorem zvm_X12_copyRow_34_92 : zmk zkdm zk_X12_copyRow_34 zm_X12_copyRow_34 200000 zma_X12_copyRow_34_92 = true := by decide +kernel
set_option maxRecDepth 100000 in
theorem zvm_X12_copyRow_34_93 : zmk zkdm zk_X12_copyRow_34 zm_X12_copyRow_34 200000 zma_X12_copyRow_34_93 = true := by decide +kernel
set_option maxRecDepth 100000 in
theorem zvm_X12_copyRow_34_94 : zmk zkdm zk_X12_copyRow_34 zm_X12_copyRow_34 200000 zma_X12_copyRow_34_94 = true := by decide +kernel
set_option maxRecDepth 100000 in
theorem zvm_X12_copyRow_34_95 : zmk zkdm zk_X12_copyRow_34 zm_X12_copyRow_34 200000 zma_X12_copyRow_34_95 = true := by decide +kernel
set_option maxRecDepth 100000 in
theorem zvm_X12_copyRow_34_96 : zmk zkdm zk_X12_copyRow_34 zm_X12_copyRow_34 200000 zma_X12_copyRow_34_96 = true := by decide +kernel
set_option maxRecDepth 100000 in
theorem zvm_X12_copyRow_34_97 : zmk zkdm zk_X12_copyRow_34 zm_X12_copyRow_34 200000 zma_X12_copyRow_34_97 = true := by decide +kernel
set_option maxRecDepth 100000 in
theorem zvm_X12_copyRow_34_98 : zmk zkdm zk_X12_copyRow_34 zm_X12_copyRow_34 200000 zma_X12_copyRow_34_98 = true := by decide +kernel
set_option maxRecDepth 100000 in
theorem zvm_X12_copyRow_34_99 : zmk zkdm zk_X12_copyRow_34 zm_X12_copyRow_34 200000 zma_X12_copyRow_34_99 = true := by decide +kernel
set_option maxRecDepth 100000 in
theorem zvm_X12_copyRow_34_100 : zmk zkdm zk_X12_copyRow_34 zm_X12_copyRow_34 200000 zma_X12_copyRow_34_100 = true := by decide +kernel
set_option maxRecDepth 100000 in
theorem zvm_X12_copyRow_34_101 : zmk zkdm zk_X12_copyRow_34 zm_X12_copyRow_34 200000 zma_X12_copyRow_34_101 = true := by decide +kernel
set_option maxRecDepth 100000 in
theorem zvm_X12_copyRow_34_102 : zmk zkdm zk_X12_copyRow_34 zm_X12_copyRow_34 200000 zma_X12_copyRow_34_102 = true := by decide +kernel
set_option maxRecDepth 100000 in
theorem zvm_X12_copyRow_34_103 : zmk zkdm zk_X12_copyRow_34 zm_X12_copyRow_34 200000 zma_X12_copyRow_34_103 = true := by decide +kernel
set_option maxRecDepth 100000 in
theorem zvm_X12_copyRow_34_104 : zmk zkdm zk_X12_copyRow_34 zm_X12_copyRow_34 200000 zma_X12_copyRow_34_104 = true := by decide +kernel
set_option maxRecDepth 100000 in
theorem zv_X12_copyRow_34 : zmeth zkdm zk_X12_copyRow_34 zm_X12_copyRow_34 200000 10991817742876777 = true := z_msp zvs_X12_copyRow_34 (show ∀ t ∈ [zma_X12_copyRow_34_0, zma_X12_copyRow_34_1, zma_X12_copyRow_34_2, zma_X12_copyRow_34_3, zma_X12_copyRow_34_4, zma_X12_copyRow_34_5, zma_X12_copyRow_34_6, zma_X12_copyRow_34_7, zma_X12_copyRow_34_8, zma_X12_copyRow_34_9, zma_X12_copyRow_34_10, zma_X12_copyRow_34_11, zma_X12_copyRow_34_12, zma_X12_copyRow_34_13, zma_X12_copyRow_34_14, zma_X12_copyRow_34_15, zma_X12_copyRow_34_16, zma_X12_copyRow_34_17, zma_X12_copyRow_34_18, zma_X12_copyRow_34_19, zma_X12_copyRow_34_20, zma_X12_copyRow_34_21, zma_X12_copyRow_34_22, zma_X12_copyRow_34_23, zma_X12_copyRow_34_24, zma_X12_copyRow_34_25, zma_X12_copyRow_34_26, zma_X12_copyRow_34_27, zma_X12_copyRow_34_28, zma_X12_copyRow_34_29, zma_X12_copyRow_34_30, zma_X12_copyRow_34_31, zma_X12_copyRow_34_32, zma_X12_copyRow_34_33, zma_X12_copyRow_34_34, zma_X12_copyRow_34_35, zma_X12_copyRow_34_36, zma_X12_copyRow_34_37, zma_X12_copyRow_34_38, zma_X12_copyRow_34_39, zma_X12_copyRow_34_40, zma_X12_copyRow_34_41, zma_X12_copyRow_34_42, zma_X12_copyRow_34_43, zma_X12_copyRow_34_44, zma_X12_copyRow_34_45, zma_X12_copyRow_34_46, zma_X12_copyRow_34_47, zma_X12_copyRow_34_48, zma_X12_copyRow_34_49, zma_X12_copyRow_34_50, zma_X12_copyRow_34_51, zma_X12_copyRow_34_52, zma_X12_copyRow_34_53, zma_X12_copyRow_34_54, zma_X12_copyRow_34_55, zma_X12_copyRow_34_56, zma_X12_copyRow_34_57, zma_X12_copyRow_34_58, zma_X12_copyRow_34_59, zma_X12_copyRow_34_60, zma_X12_copyRow_34_61, zma_X12_copyRow_34_62, zma_X12_copyRow_34_63, zma_X12_copyRow_34_64, zma_X12_copyRow_34_65, zma_X12_copyRow_34_66, zma_X12_copyRow_34_67, zma_X12_copyRow_34_68, zma_X12_copyRow_34_69, zma_X12_copyRow_34_70, zma_X12_copyRow_34_71, zma_X12_copyRow_34_72, zma_X12_copyRow_34_73, zma_X12_copyRow_34_74, zma_X12_copyRow_34_75, zma_X12_copyRow_34_76, zma_X12_copyRow_34_77, zma_X12_copyRow_34_78, zma_X12_copyRow_34_79, zma_X12_copyRow_34_80, zma_X12_copyRow_34_81, zma_X12_copyRow_34_82, zma_X12_copyRow_34_83, zma_X12_copyRow_34_84, zma_X12_copyRow_34_85, zma_X12_copyRow_34_86, zma_X12_copyRow_34_87, zma_X12_copyRow_34_88, zma_X12_copyRow_34_89, zma_X12_copyRow_34_90, zma_X12_copyRow_34_91, zma_X12_copyRow_34_92, zma_X12_copyRow_34_93, zma_X12_copyRow_34_94, zma_X12_copyRow_34_95, zma_X12_copyRow_34_96, zma_X12_copyRow_34_97, zma_X12_copyRow_34_98, zma_X12_copyRow_34_99, zma_X12_copyRow_34_100, zma_X12_copyRow_34_101, zma_X12_copyRow_34_102, zma_X12_copyRow_34_103, zma_X12_copyRow_34_104], zmk zkdm zk_X12_copyRow_34 zm_X12_copyRow_34 200000 t = true from (List.forall_mem_cons.mpr ⟨zvm_X12_copyRow_34_0, (List.forall_mem_cons.mpr ⟨zvm_X12_copyRow_34_1, (List.forall_mem_cons.mpr ⟨zvm_X12_copyRow_34_2, (List.forall_mem_cons.mpr ⟨zvm_X12_copyRow_34_3, (List.forall_mem_cons.mpr ⟨zvm_X12_copyRow_34_4, (List.forall_mem_cons.mpr ⟨zvm_X12_copyRow_34_5, (List.forall_mem_cons.mpr ⟨zvm_X12_copyRow_34_6, (List.forall_mem_cons.mpr ⟨zvm_X12_copyRow_34_7, (List.forall_mem_cons.mpr ⟨zvm_X12_copyRow_34_8, (List.forall_mem_cons.mpr ⟨zvm_X12_copyRow_34_9, (List.forall_mem_cons.mpr ⟨zvm_X12_copyRow_34_10, (List.forall_mem_cons.mpr ⟨zvm_X12_copyRow_34_11, (List.forall_mem_cons.mpr ⟨zvm_X12_copyRow_34_12, (List.forall_mem_cons.mpr ⟨zvm_X12_copyRow_34_13, (List.forall_mem_cons.mpr ⟨zvm_X12_copyRow_34_14, (List.forall_mem_cons.mpr ⟨zvm_X12_copyRow_34_15, (List.forall_mem_cons.mpr ⟨zvm_X12_copyRow_34_16, (List.forall_mem_cons.mpr ⟨zvm_X12_copyRow_34_17, (List.forall_mem_cons.mpr ⟨zvm_X12_copyRow_34_18, (List.forall_mem_cons.mpr ⟨zvm_X12_copyRow_34_19, (List.forall_mem_cons.mpr ⟨zvm_X12_copyRow_34_20, (List.forall_mem_cons.mpr ⟨zvm_X12_copyRow_34_21, (List.forall_mem_cons.mpr ⟨zvm_X12_copyRow_34_22, (List.forall_mem_cons.mpr ⟨zvm_X12_copyRow_34_23, (List.forall_mem_cons.mpr ⟨zvm_X12_copyRow_34_24, (List.forall_mem_cons.mpr ⟨zvm_X12_copyRow_34_25, (List.forall_mem_cons.mpr ⟨zvm_X12_copyRow_34_26, (List.forall_mem_cons.mpr ⟨zvm_X12_copyRow_34_27, (List.forall_mem_cons.mpr ⟨zvm_X12_copyRow_34_28, (List.forall_mem_cons.mpr ⟨zvm_X12_copyRow_34_29, (List.forall_mem_cons.mpr ⟨zvm_X12_copyRow_34_30, (List.forall_mem_cons.mpr ⟨zvm_X12_copyRow_34_31, (List.forall_mem_cons.mpr ⟨zvm_X12_copyRow_34_32, (List.forall_mem_cons.mpr ⟨zvm_X12_copyRow_34_33, (List.forall_mem_cons.mpr ⟨zvm_X12_copyRow_34_34, (List.forall_mem_cons.mpr ⟨zvm_X12_copyRow_34_35, (List.forall_mem_cons.mpr ⟨zvm_X12_copyRow_34_36, (List.forall_mem_cons.mpr ⟨zvm_X12_copyRow_34_37, (List.forall_mem_cons.mpr ⟨zvm_X12_copyRow_34_38, (List.forall_mem_cons.mpr ⟨zvm_X12_copyRow_34_39, (List.forall_mem_cons.mpr ⟨zvm_X12_copyRow_34_40, (List.forall_mem_cons.mpr ⟨zvm_X12_copyRow_34_41, (List.forall_mem_cons.mpr ⟨zvm_X12_copyRow_34_42, (List.forall_mem_cons.mpr ⟨zvm_X12_copyRow_34_43, (List.forall_mem_cons.mpr ⟨zvm_X12_copyRow_34_44, (List.forall_mem_cons.mpr ⟨zvm_X12_copyRow_34_45, (List.forall_mem_cons.mpr ⟨zvm_X12_copyRow_34_46, (List.forall_mem_cons.mpr ⟨zvm_X12_copyRow_34_47, (List.forall_mem_cons.mpr ⟨zvm_X12_copyRow_34_48, (List.forall_mem_cons.mpr ⟨zvm_X12_copyRow_34_49, (List.forall_mem_cons.mpr ⟨zvm_X12_copyRow_34_50, (List.forall_mem_cons.mpr ⟨zvm_X12_copyRow_34_51, (List.forall_mem_cons.mpr ⟨zvm_X12_copyRow_34_52, (List.forall_mem_cons.mpr ⟨zvm_X12_copyRow_34_53, (List.forall_mem_cons.mpr ⟨zvm_X12_copyRow_34_54, (List.forall_mem_cons.mpr ⟨zvm_X12_copyRow_34_55, (List.forall_mem_cons.mpr ⟨zvm_X12_copyRow_34_56, (List.forall_mem_cons.mpr ⟨zvm_X12_copyRow_34_57, (List.forall_mem_cons.mpr ⟨zvm_X12_copyRow_34_58, (List.forall_mem_cons.mpr ⟨zvm_X12_copyRow_34_59, (List.forall_mem_cons.mpr ⟨zvm_X12_copyRow_34_60, (List.forall_mem_cons.mpr ⟨zvm_X12_copyRow_34_61, (List.forall_mem_cons.mpr ⟨zvm_X12_copyRow_34_62, (List.forall_mem_cons.mpr ⟨zvm_X12_copyRow_34_63, (List.forall_mem_cons.mpr ⟨zvm_X12_copyRow_34_64, (List.forall_mem_cons.mpr ⟨zvm_X12_copyRow_34_65, (List.forall_mem_cons.mpr ⟨zvm_X12_copyRow_34_66, (List.forall_mem_cons.mpr ⟨zvm_X12_copyRow_34_67, (List.forall_mem_cons.mpr ⟨zvm_X12_copyRow_34_68, (List.forall_mem_cons.mpr ⟨zvm_X12_copyRow_34_69, (List.forall_mem_cons.mpr ⟨zvm_X12_copyRow_34_70, (List.forall_mem_cons.mpr ⟨zvm_X12_copyRow_34_71, (List.forall_mem_cons.mpr ⟨zvm_X12_copyRow_34_72, (List.forall_mem_cons.mpr ⟨zvm_X12_copyRow_34_73, (List.forall_mem_cons.mpr ⟨zvm_X12_copyRow_34_74, (List.forall_mem_cons.mpr ⟨zvm_X12_copyRow_34_75, (List.forall_mem_cons.mpr ⟨zvm_X12_copyRow_34_76, (List.forall_mem_cons.mpr ⟨zvm_X12_copyRow_34_77, (List.forall_mem_cons.mpr ⟨zvm_X12_copyRow_34_78, (List.forall_mem_cons.mpr ⟨zvm_X12_copyRow_34_79, (List.forall_mem_cons.mpr ⟨zvm_X12_copyRow_34_80, (List.forall_mem_cons.mpr ⟨zvm_X12_copyRow_34_81, (List.forall_mem_cons.mpr ⟨zvm_X12_copyRow_34_82, (List.forall_mem_cons.mpr ⟨zvm_X12_copyRow_34_83, (List.forall_mem_cons.mpr ⟨zvm_X12_copyRow_34_84, (List.forall_mem_cons.mpr ⟨zvm_X12_copyRow_34_85, (List.forall_mem_cons.mpr ⟨zvm_X12_copyRow_34_86, (List.forall_mem_cons.mpr ⟨zvm_X12_copyRow_34_87, (List.forall_mem_cons.mpr ⟨zvm_X12_copyRow_34_88, (List.forall_mem_cons.mpr ⟨zvm_X12_copyRow_34_89, (List.forall_mem_cons.mpr ⟨zvm_X12_copyRow_34_90, (List.forall_mem_cons.mpr ⟨zvm_X12_copyRow_34_91, (List.forall_mem_cons.mpr ⟨zvm_X12_copyRow_34_92, (List.forall_mem_cons.mpr ⟨zvm_X12_copyRow_34_93, (List.forall_mem_cons.mpr ⟨zvm_X12_copyRow_34_94, (List.forall_mem_cons.mpr ⟨zvm_X12_copyRow_34_95, (List.forall_mem_cons.mpr ⟨zvm_X12_copyRow_34_96, (List.forall_mem_cons.mpr ⟨zvm_X12_copyRow_34_97, (List.forall_mem_cons.mpr ⟨zvm_X12_copyRow_34_98, (List.forall_mem_cons.mpr ⟨zvm_X12_copyRow_34_99, (List.forall_mem_cons.mpr ⟨zvm_X12_copyRow_34_100, (List.forall_mem_cons.mpr ⟨zvm_X12_copyRow_34_101, (List.forall_mem_cons.mpr ⟨zvm_X12_copyRow_34_102, (List.forall_mem_cons.mpr ⟨zvm_X12_copyRow_34_103, (List.forall_mem_cons.mpr ⟨zvm_X12_copyRow_34_104, (List.forall_mem_nil _)⟩)⟩)⟩)⟩)⟩)⟩)⟩)⟩)⟩)⟩)⟩)⟩)⟩)⟩)⟩)⟩)⟩)⟩)⟩)⟩)⟩)⟩)⟩)⟩)⟩)⟩)⟩)⟩)⟩)⟩)⟩)⟩)⟩)⟩)⟩)⟩)⟩)⟩)⟩)⟩)⟩)⟩)⟩)⟩)⟩)⟩)⟩)⟩)⟩)⟩)⟩)⟩)⟩)⟩)⟩)⟩)⟩)⟩)⟩)⟩)⟩)⟩)⟩)⟩)⟩)⟩)⟩)⟩)⟩)⟩)⟩)⟩)⟩)⟩)⟩)⟩)⟩)⟩)⟩)⟩)⟩)⟩)⟩)⟩)⟩)⟩)⟩)⟩)⟩)⟩)⟩)⟩)⟩)⟩)⟩)⟩)⟩)⟩)⟩)⟩)⟩)⟩)⟩)⟩)⟩))
theorem zp_X12_copyRow_34 (l : Launch) : zMet zkdm vwCl zTW zKPr l zk_X12_copyRow_34 := z_met zkpr_ok zTW_good zk_X12_copyRow_34 zm_X12_copyRow_34 200000 10991817742876777 (by decide +kernel) (by decide +kernel) (by decide +kernel) zv_X12_copyRow_34 zd_X12_copyRow (List.forall_mem_nil _) ⟨(List.forall_mem_nil _), (List.forall_mem_nil _)⟩ (List.forall_mem_nil _) (List.forall_mem_nil _)

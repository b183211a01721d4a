/-! The reference's constructor: the script parsed, piece by piece. -/
def zp_0 : zH := za_h1 ++ [(5, [.ref 233, .ref 234, .ref 235, .ref 236, .int 0, .int 0, .ref 237, .ref 238, .ref 239, .ref 240, .int 0, .int 66, .int 0, .int (-1), .int 0, .ref 241, .int 0, .int 0, .int 0, .int 0, .int 0, .int 0, .int 0, .ref 242]),
  (100, List.replicate 451 (.int 0)),
  (100, List.replicate 451 (.int 0)),
  (100, List.replicate 3608 (.int 0)),
  (100, List.replicate 451 (.int 0)),
  (100, List.replicate 600 (.int 0)),
  (100, [.int 108, .int 101, .int 116, .int 116, .int 101, .int 114, .int 115, .int 32, .int 51, .int 59, .int 32, .int 116, .int 101, .int 120, .int 116, .int 32, .int 97, .int 98, .int 97, .int 99, .int 97, .int 98, .int 97, .int 97, .int 98, .int 97, .int 99, .int 99, .int 59, .int 32, .int 107, .int 101, .int 101, .int 112, .int 32, .int 48, .int 59, .int 32, .int 107, .int 101, .int 101, .int 112, .int 32, .int 49, .int 59, .int 32, .int 97, .int 112, .int 112, .int 101, .int 110, .int 100, .int 32, .int 97, .int 98, .int 59, .int 32, .int 114, .int 111, .int 116, .int 97, .int 116, .int 101, .int 32, .int 50, .int 59] ++ List.replicate 534 (.int 0)),
  (100, List.replicate 130 (.int 0)),
  (100, List.replicate 130 (.int 0)),
  (102, List.replicate 400 (.int 0)),
  (100, List.replicate 2 (.int 0))]
def zp_1 : zH := za_h1 ++ [(5, [.ref 233, .ref 234, .ref 235, .ref 236, .int 0, .int 0, .ref 237, .ref 238, .ref 239, .ref 240, .int 0, .int 66, .int 0, .int (-1), .int 0, .ref 241, .int 0, .int 0, .int 2, .int 0, .int 7, .int 0, .int 0, .ref 242]),
  (100, List.replicate 451 (.int 0)),
  (100, List.replicate 451 (.int 0)),
  (100, List.replicate 3608 (.int 0)),
  (100, List.replicate 451 (.int 0)),
  (100, List.replicate 600 (.int 0)),
  (100, [.int 108, .int 101, .int 116, .int 116, .int 101, .int 114, .int 115, .int 32, .int 51, .int 59, .int 32, .int 116, .int 101, .int 120, .int 116, .int 32, .int 97, .int 98, .int 97, .int 99, .int 97, .int 98, .int 97, .int 97, .int 98, .int 97, .int 99, .int 99, .int 59, .int 32, .int 107, .int 101, .int 101, .int 112, .int 32, .int 48, .int 59, .int 32, .int 107, .int 101, .int 101, .int 112, .int 32, .int 49, .int 59, .int 32, .int 97, .int 112, .int 112, .int 101, .int 110, .int 100, .int 32, .int 97, .int 98, .int 59, .int 32, .int 114, .int 111, .int 116, .int 97, .int 116, .int 101, .int 32, .int 50, .int 59] ++ List.replicate 534 (.int 0)),
  (100, List.replicate 130 (.int 0)),
  (100, List.replicate 130 (.int 0)),
  (102, List.replicate 400 (.int 0)),
  (100, List.replicate 2 (.int 0))]
def zp_2 : zH := za_h1 ++ [(5, [.ref 233, .ref 234, .ref 235, .ref 236, .int 0, .int 0, .ref 237, .ref 238, .ref 239, .ref 240, .int 0, .int 66, .int 0, .int (-1), .int 0, .ref 241, .int 0, .int 0, .int 3, .int 8, .int 9, .int 3, .int 0, .ref 242]),
  (100, List.replicate 451 (.int 0)),
  (100, List.replicate 451 (.int 0)),
  (100, List.replicate 3608 (.int 0)),
  (100, List.replicate 451 (.int 0)),
  (100, List.replicate 600 (.int 0)),
  (100, [.int 108, .int 101, .int 116, .int 116, .int 101, .int 114, .int 115, .int 32, .int 51, .int 59, .int 32, .int 116, .int 101, .int 120, .int 116, .int 32, .int 97, .int 98, .int 97, .int 99, .int 97, .int 98, .int 97, .int 97, .int 98, .int 97, .int 99, .int 99, .int 59, .int 32, .int 107, .int 101, .int 101, .int 112, .int 32, .int 48, .int 59, .int 32, .int 107, .int 101, .int 101, .int 112, .int 32, .int 49, .int 59, .int 32, .int 97, .int 112, .int 112, .int 101, .int 110, .int 100, .int 32, .int 97, .int 98, .int 59, .int 32, .int 114, .int 111, .int 116, .int 97, .int 116, .int 101, .int 32, .int 50, .int 59] ++ List.replicate 534 (.int 0)),
  (100, List.replicate 130 (.int 0)),
  (100, List.replicate 130 (.int 0)),
  (102, List.replicate 400 (.int 0)),
  (100, List.replicate 2 (.int 0))]
def zp_3 : zH := za_h1 ++ [(5, [.ref 233, .ref 234, .ref 235, .ref 236, .int 0, .int 0, .ref 237, .ref 238, .ref 239, .ref 240, .int 0, .int 66, .int 0, .int (-1), .int 0, .ref 241, .int 0, .int 0, .int 1, .int 9, .int 10, .int 0, .int 0, .ref 242]),
  (100, List.replicate 451 (.int 0)),
  (100, List.replicate 451 (.int 0)),
  (100, List.replicate 3608 (.int 0)),
  (100, List.replicate 451 (.int 0)),
  (100, List.replicate 600 (.int 0)),
  (100, [.int 108, .int 101, .int 116, .int 116, .int 101, .int 114, .int 115, .int 32, .int 51, .int 59, .int 32, .int 116, .int 101, .int 120, .int 116, .int 32, .int 97, .int 98, .int 97, .int 99, .int 97, .int 98, .int 97, .int 97, .int 98, .int 97, .int 99, .int 99, .int 59, .int 32, .int 107, .int 101, .int 101, .int 112, .int 32, .int 48, .int 59, .int 32, .int 107, .int 101, .int 101, .int 112, .int 32, .int 49, .int 59, .int 32, .int 97, .int 112, .int 112, .int 101, .int 110, .int 100, .int 32, .int 97, .int 98, .int 59, .int 32, .int 114, .int 111, .int 116, .int 97, .int 116, .int 101, .int 32, .int 50, .int 59] ++ List.replicate 534 (.int 0)),
  (100, List.replicate 130 (.int 0)),
  (100, List.replicate 130 (.int 0)),
  (102, List.replicate 400 (.int 0)),
  (100, [.int 3] ++ List.replicate 1 (.int 0))]
def zp_4 : zH := za_h1 ++ [(5, [.ref 233, .ref 234, .ref 235, .ref 236, .int 0, .int 0, .ref 237, .ref 238, .ref 239, .ref 240, .int 0, .int 66, .int 0, .int (-1), .int 0, .ref 241, .int 0, .int 0, .int 1, .int 9, .int 10, .int 0, .int 0, .ref 242]),
  (100, [.int 3] ++ List.replicate 450 (.int 0)),
  (100, List.replicate 451 (.int 0)),
  (100, List.replicate 3608 (.int 0)),
  (100, List.replicate 451 (.int 0)),
  (100, List.replicate 600 (.int 0)),
  (100, [.int 108, .int 101, .int 116, .int 116, .int 101, .int 114, .int 115, .int 32, .int 51, .int 59, .int 32, .int 116, .int 101, .int 120, .int 116, .int 32, .int 97, .int 98, .int 97, .int 99, .int 97, .int 98, .int 97, .int 97, .int 98, .int 97, .int 99, .int 99, .int 59, .int 32, .int 107, .int 101, .int 101, .int 112, .int 32, .int 48, .int 59, .int 32, .int 107, .int 101, .int 101, .int 112, .int 32, .int 49, .int 59, .int 32, .int 97, .int 112, .int 112, .int 101, .int 110, .int 100, .int 32, .int 97, .int 98, .int 59, .int 32, .int 114, .int 111, .int 116, .int 97, .int 116, .int 101, .int 32, .int 50, .int 59] ++ List.replicate 534 (.int 0)),
  (100, List.replicate 130 (.int 0)),
  (100, List.replicate 130 (.int 0)),
  (102, List.replicate 400 (.int 0)),
  (100, [.int 3] ++ List.replicate 1 (.int 0))]
def zp_5 : zH := za_h1 ++ [(5, [.ref 233, .ref 234, .ref 235, .ref 236, .int 0, .int 0, .ref 237, .ref 238, .ref 239, .ref 240, .int 0, .int 66, .int 0, .int (-1), .int 0, .ref 241, .int 0, .int 0, .int 2, .int 11, .int 15, .int 0, .int 0, .ref 242]),
  (100, [.int 3] ++ List.replicate 450 (.int 0)),
  (100, List.replicate 451 (.int 0)),
  (100, List.replicate 3608 (.int 0)),
  (100, List.replicate 451 (.int 0)),
  (100, List.replicate 600 (.int 0)),
  (100, [.int 108, .int 101, .int 116, .int 116, .int 101, .int 114, .int 115, .int 32, .int 51, .int 59, .int 32, .int 116, .int 101, .int 120, .int 116, .int 32, .int 97, .int 98, .int 97, .int 99, .int 97, .int 98, .int 97, .int 97, .int 98, .int 97, .int 99, .int 99, .int 59, .int 32, .int 107, .int 101, .int 101, .int 112, .int 32, .int 48, .int 59, .int 32, .int 107, .int 101, .int 101, .int 112, .int 32, .int 49, .int 59, .int 32, .int 97, .int 112, .int 112, .int 101, .int 110, .int 100, .int 32, .int 97, .int 98, .int 59, .int 32, .int 114, .int 111, .int 116, .int 97, .int 116, .int 101, .int 32, .int 50, .int 59] ++ List.replicate 534 (.int 0)),
  (100, List.replicate 130 (.int 0)),
  (100, List.replicate 130 (.int 0)),
  (102, List.replicate 400 (.int 0)),
  (100, [.int 3] ++ List.replicate 1 (.int 0))]
def zp_6 : zH := za_h1 ++ [(5, [.ref 233, .ref 234, .ref 235, .ref 236, .int 0, .int 0, .ref 237, .ref 238, .ref 239, .ref 240, .int 0, .int 66, .int 0, .int (-1), .int 12, .ref 241, .int 0, .int 0, .int 1, .int 28, .int 29, .int 0, .int 1, .ref 242]),
  (100, [.int 3, .int 12, .int 0, .int 0, .int 1, .int 0, .int 2, .int 0, .int 1, .int 0, .int 0, .int 1, .int 0, .int 2, .int 2] ++ List.replicate 436 (.int 0)),
  (100, List.replicate 451 (.int 0)),
  (100, List.replicate 3608 (.int 0)),
  (100, List.replicate 451 (.int 0)),
  (100, List.replicate 600 (.int 0)),
  (100, [.int 108, .int 101, .int 116, .int 116, .int 101, .int 114, .int 115, .int 32, .int 51, .int 59, .int 32, .int 116, .int 101, .int 120, .int 116, .int 32, .int 97, .int 98, .int 97, .int 99, .int 97, .int 98, .int 97, .int 97, .int 98, .int 97, .int 99, .int 99, .int 59, .int 32, .int 107, .int 101, .int 101, .int 112, .int 32, .int 48, .int 59, .int 32, .int 107, .int 101, .int 101, .int 112, .int 32, .int 49, .int 59, .int 32, .int 97, .int 112, .int 112, .int 101, .int 110, .int 100, .int 32, .int 97, .int 98, .int 59, .int 32, .int 114, .int 111, .int 116, .int 97, .int 116, .int 101, .int 32, .int 50, .int 59] ++ List.replicate 534 (.int 0)),
  (100, [.int 0, .int 1, .int 0, .int 2, .int 0, .int 1, .int 0, .int 0, .int 1, .int 0, .int 2, .int 2] ++ List.replicate 118 (.int 0)),
  (100, List.replicate 130 (.int 0)),
  (102, List.replicate 400 (.int 0)),
  (100, [.int 3] ++ List.replicate 1 (.int 0))]
def zp_7 : zH := za_h1 ++ [(5, [.ref 233, .ref 234, .ref 235, .ref 236, .int 0, .int 0, .ref 237, .ref 238, .ref 239, .ref 240, .int 0, .int 66, .int 0, .int (-1), .int 12, .ref 241, .int 0, .int 0, .int 2, .int 30, .int 34, .int 0, .int 1, .ref 242]),
  (100, [.int 3, .int 12, .int 0, .int 0, .int 1, .int 0, .int 2, .int 0, .int 1, .int 0, .int 0, .int 1, .int 0, .int 2, .int 2] ++ List.replicate 436 (.int 0)),
  (100, List.replicate 451 (.int 0)),
  (100, List.replicate 3608 (.int 0)),
  (100, List.replicate 451 (.int 0)),
  (100, List.replicate 600 (.int 0)),
  (100, [.int 108, .int 101, .int 116, .int 116, .int 101, .int 114, .int 115, .int 32, .int 51, .int 59, .int 32, .int 116, .int 101, .int 120, .int 116, .int 32, .int 97, .int 98, .int 97, .int 99, .int 97, .int 98, .int 97, .int 97, .int 98, .int 97, .int 99, .int 99, .int 59, .int 32, .int 107, .int 101, .int 101, .int 112, .int 32, .int 48, .int 59, .int 32, .int 107, .int 101, .int 101, .int 112, .int 32, .int 49, .int 59, .int 32, .int 97, .int 112, .int 112, .int 101, .int 110, .int 100, .int 32, .int 97, .int 98, .int 59, .int 32, .int 114, .int 111, .int 116, .int 97, .int 116, .int 101, .int 32, .int 50, .int 59] ++ List.replicate 534 (.int 0)),
  (100, [.int 0, .int 1, .int 0, .int 2, .int 0, .int 1, .int 0, .int 0, .int 1, .int 0, .int 2, .int 2] ++ List.replicate 118 (.int 0)),
  (100, List.replicate 130 (.int 0)),
  (102, List.replicate 400 (.int 0)),
  (100, [.int 3] ++ List.replicate 1 (.int 0))]
def zp_8 : zH := za_h1 ++ [(5, [.ref 233, .ref 234, .ref 235, .ref 236, .int 0, .int 0, .ref 237, .ref 238, .ref 239, .ref 240, .int 0, .int 66, .int 0, .int (-1), .int 12, .ref 241, .int 0, .int 0, .int 1, .int 36, .int 37, .int 0, .int 2, .ref 242]),
  (100, [.int 3, .int 12, .int 1, .int 0, .int 1, .int 0, .int 2, .int 0, .int 1, .int 0, .int 0, .int 1, .int 0, .int 2, .int 2, .int 0, .int 0, .int 0, .int 0, .int 0, .int 0, .int 0, .int 0, .int 0, .int 0, .int 0, .int 0, .int 0, .int 0, .int 0, .int 0, .int 0, .int 0, .int 0, .int 0, .int 0, .int 0, .int 0, .int 0, .int 0, .int 0, .int 0, .int 0, .int 0, .int 0, .int 0, .int 0, .int 0, .int 0, .int 0, .int 0, .int 0, .int 0, .int 0, .int 0, .int 0, .int 0, .int 0, .int 0, .int 0, .int 0, .int 0, .int 0, .int 0, .int 0, .int 0, .int 0, .int 0, .int 0, .int 0, .int 0, .int 0, .int 0, .int 0, .int 0, .int 0, .int 0, .int 0, .int 0, .int 0, .int 0, .int 0, .int 0, .int 0, .int 0, .int 0, .int 0, .int 0, .int 0, .int 0, .int 0, .int 0, .int 0, .int 0, .int 0, .int 0, .int 0, .int 0, .int 0, .int 0, .int 0, .int 0, .int 0, .int 0, .int 0, .int 0, .int 0, .int 0, .int 0, .int 0, .int 0, .int 0, .int 0, .int 0, .int 0, .int 0, .int 0, .int 0, .int 0, .int 0, .int 0, .int 0, .int 0, .int 4, .int 0, .int 0, .int 0, .int 0, .int 0, .int 0, .int 0, .int 0, .int 1, .int 0, .int 2] ++ List.replicate 316 (.int 0)),
  (100, List.replicate 451 (.int 0)),
  (100, List.replicate 3608 (.int 0)),
  (100, List.replicate 451 (.int 0)),
  (100, List.replicate 600 (.int 0)),
  (100, [.int 108, .int 101, .int 116, .int 116, .int 101, .int 114, .int 115, .int 32, .int 51, .int 59, .int 32, .int 116, .int 101, .int 120, .int 116, .int 32, .int 97, .int 98, .int 97, .int 99, .int 97, .int 98, .int 97, .int 97, .int 98, .int 97, .int 99, .int 99, .int 59, .int 32, .int 107, .int 101, .int 101, .int 112, .int 32, .int 48, .int 59, .int 32, .int 107, .int 101, .int 101, .int 112, .int 32, .int 49, .int 59, .int 32, .int 97, .int 112, .int 112, .int 101, .int 110, .int 100, .int 32, .int 97, .int 98, .int 59, .int 32, .int 114, .int 111, .int 116, .int 97, .int 116, .int 101, .int 32, .int 50, .int 59] ++ List.replicate 534 (.int 0)),
  (100, [.int 0, .int 1, .int 0, .int 2, .int 0, .int 1, .int 0, .int 0, .int 1, .int 0, .int 2, .int 2] ++ List.replicate 118 (.int 0)),
  (100, [.int 0, .int 4, .int 6, .int 12] ++ List.replicate 126 (.int 0)),
  (102, List.replicate 400 (.int 0)),
  (100, List.replicate 2 (.int 0))]
def zp_9 : zH := za_h1 ++ [(5, [.ref 233, .ref 234, .ref 235, .ref 236, .int 0, .int 0, .ref 237, .ref 238, .ref 239, .ref 240, .int 0, .int 66, .int 0, .int (-1), .int 12, .ref 241, .int 0, .int 0, .int 2, .int 38, .int 42, .int 0, .int 2, .ref 242]),
  (100, [.int 3, .int 12, .int 1, .int 0, .int 1, .int 0, .int 2, .int 0, .int 1, .int 0, .int 0, .int 1, .int 0, .int 2, .int 2, .int 0, .int 0, .int 0, .int 0, .int 0, .int 0, .int 0, .int 0, .int 0, .int 0, .int 0, .int 0, .int 0, .int 0, .int 0, .int 0, .int 0, .int 0, .int 0, .int 0, .int 0, .int 0, .int 0, .int 0, .int 0, .int 0, .int 0, .int 0, .int 0, .int 0, .int 0, .int 0, .int 0, .int 0, .int 0, .int 0, .int 0, .int 0, .int 0, .int 0, .int 0, .int 0, .int 0, .int 0, .int 0, .int 0, .int 0, .int 0, .int 0, .int 0, .int 0, .int 0, .int 0, .int 0, .int 0, .int 0, .int 0, .int 0, .int 0, .int 0, .int 0, .int 0, .int 0, .int 0, .int 0, .int 0, .int 0, .int 0, .int 0, .int 0, .int 0, .int 0, .int 0, .int 0, .int 0, .int 0, .int 0, .int 0, .int 0, .int 0, .int 0, .int 0, .int 0, .int 0, .int 0, .int 0, .int 0, .int 0, .int 0, .int 0, .int 0, .int 0, .int 0, .int 0, .int 0, .int 0, .int 0, .int 0, .int 0, .int 0, .int 0, .int 0, .int 0, .int 0, .int 0, .int 0, .int 0, .int 0, .int 4, .int 0, .int 0, .int 0, .int 0, .int 0, .int 0, .int 0, .int 0, .int 1, .int 0, .int 2] ++ List.replicate 316 (.int 0)),
  (100, List.replicate 451 (.int 0)),
  (100, List.replicate 3608 (.int 0)),
  (100, List.replicate 451 (.int 0)),
  (100, List.replicate 600 (.int 0)),
  (100, [.int 108, .int 101, .int 116, .int 116, .int 101, .int 114, .int 115, .int 32, .int 51, .int 59, .int 32, .int 116, .int 101, .int 120, .int 116, .int 32, .int 97, .int 98, .int 97, .int 99, .int 97, .int 98, .int 97, .int 97, .int 98, .int 97, .int 99, .int 99, .int 59, .int 32, .int 107, .int 101, .int 101, .int 112, .int 32, .int 48, .int 59, .int 32, .int 107, .int 101, .int 101, .int 112, .int 32, .int 49, .int 59, .int 32, .int 97, .int 112, .int 112, .int 101, .int 110, .int 100, .int 32, .int 97, .int 98, .int 59, .int 32, .int 114, .int 111, .int 116, .int 97, .int 116, .int 101, .int 32, .int 50, .int 59] ++ List.replicate 534 (.int 0)),
  (100, [.int 0, .int 1, .int 0, .int 2, .int 0, .int 1, .int 0, .int 0, .int 1, .int 0, .int 2, .int 2] ++ List.replicate 118 (.int 0)),
  (100, [.int 0, .int 4, .int 6, .int 12] ++ List.replicate 126 (.int 0)),
  (102, List.replicate 400 (.int 0)),
  (100, List.replicate 2 (.int 0))]
def zp_10 : zH := za_h1 ++ [(5, [.ref 233, .ref 234, .ref 235, .ref 236, .int 0, .int 0, .ref 237, .ref 238, .ref 239, .ref 240, .int 0, .int 66, .int 0, .int (-1), .int 12, .ref 241, .int 0, .int 0, .int 1, .int 44, .int 45, .int 0, .int 3, .ref 242]),
  (100, [.int 3, .int 12, .int 2, .int 0, .int 1, .int 0, .int 2, .int 0, .int 1, .int 0, .int 0, .int 1, .int 0, .int 2, .int 2, .int 0, .int 0, .int 0, .int 0, .int 0, .int 0, .int 0, .int 0, .int 0, .int 0, .int 0, .int 0, .int 0, .int 0, .int 0, .int 0, .int 0, .int 0, .int 0, .int 0, .int 0, .int 0, .int 0, .int 0, .int 0, .int 0, .int 0, .int 0, .int 0, .int 0, .int 0, .int 0, .int 0, .int 0, .int 0, .int 0, .int 0, .int 0, .int 0, .int 0, .int 0, .int 0, .int 0, .int 0, .int 0, .int 0, .int 0, .int 0, .int 0, .int 0, .int 0, .int 0, .int 0, .int 0, .int 0, .int 0, .int 0, .int 0, .int 0, .int 0, .int 0, .int 0, .int 0, .int 0, .int 0, .int 0, .int 0, .int 0, .int 0, .int 0, .int 0, .int 0, .int 0, .int 0, .int 0, .int 0, .int 0, .int 0, .int 0, .int 0, .int 0, .int 0, .int 0, .int 0, .int 0, .int 0, .int 0, .int 0, .int 0, .int 0, .int 0, .int 0, .int 0, .int 0, .int 0, .int 0, .int 0, .int 0, .int 0, .int 0, .int 0, .int 0, .int 0, .int 0, .int 0, .int 0, .int 0, .int 0, .int 4, .int 2, .int 0, .int 0, .int 0, .int 0, .int 0, .int 0, .int 0, .int 1, .int 0, .int 2, .int 0, .int 0, .int 0, .int 0, .int 0, .int 0, .int 0, .int 0, .int 0, .int 0, .int 0, .int 0, .int 0, .int 0, .int 0, .int 0, .int 0, .int 0, .int 0, .int 0, .int 0, .int 0, .int 0, .int 0, .int 0, .int 0, .int 0, .int 0, .int 0, .int 0, .int 0, .int 0, .int 0, .int 0, .int 0, .int 0, .int 0, .int 1] ++ List.replicate 278 (.int 0)),
  (100, List.replicate 451 (.int 0)),
  (100, List.replicate 3608 (.int 0)),
  (100, List.replicate 451 (.int 0)),
  (100, List.replicate 600 (.int 0)),
  (100, [.int 108, .int 101, .int 116, .int 116, .int 101, .int 114, .int 115, .int 32, .int 51, .int 59, .int 32, .int 116, .int 101, .int 120, .int 116, .int 32, .int 97, .int 98, .int 97, .int 99, .int 97, .int 98, .int 97, .int 97, .int 98, .int 97, .int 99, .int 99, .int 59, .int 32, .int 107, .int 101, .int 101, .int 112, .int 32, .int 48, .int 59, .int 32, .int 107, .int 101, .int 101, .int 112, .int 32, .int 49, .int 59, .int 32, .int 97, .int 112, .int 112, .int 101, .int 110, .int 100, .int 32, .int 97, .int 98, .int 59, .int 32, .int 114, .int 111, .int 116, .int 97, .int 116, .int 101, .int 32, .int 50, .int 59] ++ List.replicate 534 (.int 0)),
  (100, [.int 0, .int 1, .int 0, .int 2, .int 0, .int 1, .int 0, .int 0, .int 1, .int 0, .int 2, .int 2] ++ List.replicate 118 (.int 0)),
  (100, [.int 0, .int 4, .int 6, .int 12] ++ List.replicate 126 (.int 0)),
  (102, List.replicate 400 (.int 0)),
  (100, [.int 1] ++ List.replicate 1 (.int 0))]
def zp_11 : zH := za_h1 ++ [(5, [.ref 233, .ref 234, .ref 235, .ref 236, .int 0, .int 0, .ref 237, .ref 238, .ref 239, .ref 240, .int 0, .int 66, .int 0, .int (-1), .int 12, .ref 241, .int 0, .int 0, .int 2, .int 46, .int 52, .int 0, .int 3, .ref 242]),
  (100, [.int 3, .int 12, .int 2, .int 0, .int 1, .int 0, .int 2, .int 0, .int 1, .int 0, .int 0, .int 1, .int 0, .int 2, .int 2, .int 0, .int 0, .int 0, .int 0, .int 0, .int 0, .int 0, .int 0, .int 0, .int 0, .int 0, .int 0, .int 0, .int 0, .int 0, .int 0, .int 0, .int 0, .int 0, .int 0, .int 0, .int 0, .int 0, .int 0, .int 0, .int 0, .int 0, .int 0, .int 0, .int 0, .int 0, .int 0, .int 0, .int 0, .int 0, .int 0, .int 0, .int 0, .int 0, .int 0, .int 0, .int 0, .int 0, .int 0, .int 0, .int 0, .int 0, .int 0, .int 0, .int 0, .int 0, .int 0, .int 0, .int 0, .int 0, .int 0, .int 0, .int 0, .int 0, .int 0, .int 0, .int 0, .int 0, .int 0, .int 0, .int 0, .int 0, .int 0, .int 0, .int 0, .int 0, .int 0, .int 0, .int 0, .int 0, .int 0, .int 0, .int 0, .int 0, .int 0, .int 0, .int 0, .int 0, .int 0, .int 0, .int 0, .int 0, .int 0, .int 0, .int 0, .int 0, .int 0, .int 0, .int 0, .int 0, .int 0, .int 0, .int 0, .int 0, .int 0, .int 0, .int 0, .int 0, .int 0, .int 0, .int 0, .int 0, .int 0, .int 4, .int 2, .int 0, .int 0, .int 0, .int 0, .int 0, .int 0, .int 0, .int 1, .int 0, .int 2, .int 0, .int 0, .int 0, .int 0, .int 0, .int 0, .int 0, .int 0, .int 0, .int 0, .int 0, .int 0, .int 0, .int 0, .int 0, .int 0, .int 0, .int 0, .int 0, .int 0, .int 0, .int 0, .int 0, .int 0, .int 0, .int 0, .int 0, .int 0, .int 0, .int 0, .int 0, .int 0, .int 0, .int 0, .int 0, .int 0, .int 0, .int 1] ++ List.replicate 278 (.int 0)),
  (100, List.replicate 451 (.int 0)),
  (100, List.replicate 3608 (.int 0)),
  (100, List.replicate 451 (.int 0)),
  (100, List.replicate 600 (.int 0)),
  (100, [.int 108, .int 101, .int 116, .int 116, .int 101, .int 114, .int 115, .int 32, .int 51, .int 59, .int 32, .int 116, .int 101, .int 120, .int 116, .int 32, .int 97, .int 98, .int 97, .int 99, .int 97, .int 98, .int 97, .int 97, .int 98, .int 97, .int 99, .int 99, .int 59, .int 32, .int 107, .int 101, .int 101, .int 112, .int 32, .int 48, .int 59, .int 32, .int 107, .int 101, .int 101, .int 112, .int 32, .int 49, .int 59, .int 32, .int 97, .int 112, .int 112, .int 101, .int 110, .int 100, .int 32, .int 97, .int 98, .int 59, .int 32, .int 114, .int 111, .int 116, .int 97, .int 116, .int 101, .int 32, .int 50, .int 59] ++ List.replicate 534 (.int 0)),
  (100, [.int 0, .int 1, .int 0, .int 2, .int 0, .int 1, .int 0, .int 0, .int 1, .int 0, .int 2, .int 2] ++ List.replicate 118 (.int 0)),
  (100, [.int 0, .int 4, .int 6, .int 12] ++ List.replicate 126 (.int 0)),
  (102, List.replicate 400 (.int 0)),
  (100, [.int 1] ++ List.replicate 1 (.int 0))]
def zp_12 : zH := za_h1 ++ [(5, [.ref 233, .ref 234, .ref 235, .ref 236, .int 0, .int 0, .ref 237, .ref 238, .ref 239, .ref 240, .int 0, .int 66, .int 0, .int (-1), .int 14, .ref 241, .int 0, .int 0, .int 1, .int 55, .int 56, .int 0, .int 4, .ref 242]),
  (100, [.int 3, .int 14, .int 2, .int 0, .int 1, .int 0, .int 2, .int 0, .int 1, .int 0, .int 0, .int 1, .int 0, .int 2, .int 2, .int 0, .int 1, .int 0, .int 0, .int 0, .int 0, .int 0, .int 0, .int 0, .int 0, .int 0, .int 0, .int 0, .int 0, .int 0, .int 0, .int 0, .int 0, .int 0, .int 0, .int 0, .int 0, .int 0, .int 0, .int 0, .int 0, .int 0, .int 0, .int 0, .int 0, .int 0, .int 0, .int 0, .int 0, .int 0, .int 0, .int 0, .int 0, .int 0, .int 0, .int 0, .int 0, .int 0, .int 0, .int 0, .int 0, .int 0, .int 0, .int 0, .int 0, .int 0, .int 0, .int 0, .int 0, .int 0, .int 0, .int 0, .int 0, .int 0, .int 0, .int 0, .int 0, .int 0, .int 0, .int 0, .int 0, .int 0, .int 0, .int 0, .int 0, .int 0, .int 0, .int 0, .int 0, .int 0, .int 0, .int 0, .int 0, .int 0, .int 0, .int 0, .int 0, .int 0, .int 0, .int 0, .int 0, .int 0, .int 0, .int 0, .int 0, .int 0, .int 0, .int 0, .int 0, .int 0, .int 0, .int 0, .int 0, .int 0, .int 0, .int 0, .int 0, .int 0, .int 0, .int 0, .int 0, .int 0, .int 0, .int 4, .int 2, .int 0, .int 0, .int 0, .int 0, .int 0, .int 0, .int 0, .int 1, .int 0, .int 2, .int 0, .int 0, .int 0, .int 0, .int 0, .int 0, .int 0, .int 0, .int 0, .int 0, .int 0, .int 0, .int 0, .int 0, .int 0, .int 0, .int 0, .int 0, .int 0, .int 0, .int 0, .int 0, .int 0, .int 0, .int 0, .int 0, .int 0, .int 0, .int 0, .int 0, .int 0, .int 0, .int 0, .int 0, .int 0, .int 0, .int 0, .int 1] ++ List.replicate 278 (.int 0)),
  (100, List.replicate 451 (.int 0)),
  (100, List.replicate 3608 (.int 0)),
  (100, List.replicate 451 (.int 0)),
  (100, List.replicate 600 (.int 0)),
  (100, [.int 108, .int 101, .int 116, .int 116, .int 101, .int 114, .int 115, .int 32, .int 51, .int 59, .int 32, .int 116, .int 101, .int 120, .int 116, .int 32, .int 97, .int 98, .int 97, .int 99, .int 97, .int 98, .int 97, .int 97, .int 98, .int 97, .int 99, .int 99, .int 59, .int 32, .int 107, .int 101, .int 101, .int 112, .int 32, .int 48, .int 59, .int 32, .int 107, .int 101, .int 101, .int 112, .int 32, .int 49, .int 59, .int 32, .int 97, .int 112, .int 112, .int 101, .int 110, .int 100, .int 32, .int 97, .int 98, .int 59, .int 32, .int 114, .int 111, .int 116, .int 97, .int 116, .int 101, .int 32, .int 50, .int 59] ++ List.replicate 534 (.int 0)),
  (100, [.int 0, .int 1, .int 0, .int 2, .int 0, .int 1, .int 0, .int 0, .int 1, .int 0, .int 2, .int 2, .int 0, .int 1] ++ List.replicate 116 (.int 0)),
  (100, [.int 0, .int 4, .int 6, .int 12] ++ List.replicate 126 (.int 0)),
  (102, List.replicate 400 (.int 0)),
  (100, [.int 1] ++ List.replicate 1 (.int 0))]
def zp_13 : zH := za_h1 ++ [(5, [.ref 233, .ref 234, .ref 235, .ref 236, .int 0, .int 0, .ref 237, .ref 238, .ref 239, .ref 240, .int 0, .int 66, .int 0, .int (-1), .int 14, .ref 241, .int 0, .int 0, .int 2, .int 57, .int 63, .int 0, .int 4, .ref 242]),
  (100, [.int 3, .int 14, .int 2, .int 0, .int 1, .int 0, .int 2, .int 0, .int 1, .int 0, .int 0, .int 1, .int 0, .int 2, .int 2, .int 0, .int 1, .int 0, .int 0, .int 0, .int 0, .int 0, .int 0, .int 0, .int 0, .int 0, .int 0, .int 0, .int 0, .int 0, .int 0, .int 0, .int 0, .int 0, .int 0, .int 0, .int 0, .int 0, .int 0, .int 0, .int 0, .int 0, .int 0, .int 0, .int 0, .int 0, .int 0, .int 0, .int 0, .int 0, .int 0, .int 0, .int 0, .int 0, .int 0, .int 0, .int 0, .int 0, .int 0, .int 0, .int 0, .int 0, .int 0, .int 0, .int 0, .int 0, .int 0, .int 0, .int 0, .int 0, .int 0, .int 0, .int 0, .int 0, .int 0, .int 0, .int 0, .int 0, .int 0, .int 0, .int 0, .int 0, .int 0, .int 0, .int 0, .int 0, .int 0, .int 0, .int 0, .int 0, .int 0, .int 0, .int 0, .int 0, .int 0, .int 0, .int 0, .int 0, .int 0, .int 0, .int 0, .int 0, .int 0, .int 0, .int 0, .int 0, .int 0, .int 0, .int 0, .int 0, .int 0, .int 0, .int 0, .int 0, .int 0, .int 0, .int 0, .int 0, .int 0, .int 0, .int 0, .int 0, .int 0, .int 4, .int 2, .int 0, .int 0, .int 0, .int 0, .int 0, .int 0, .int 0, .int 1, .int 0, .int 2, .int 0, .int 0, .int 0, .int 0, .int 0, .int 0, .int 0, .int 0, .int 0, .int 0, .int 0, .int 0, .int 0, .int 0, .int 0, .int 0, .int 0, .int 0, .int 0, .int 0, .int 0, .int 0, .int 0, .int 0, .int 0, .int 0, .int 0, .int 0, .int 0, .int 0, .int 0, .int 0, .int 0, .int 0, .int 0, .int 0, .int 0, .int 1] ++ List.replicate 278 (.int 0)),
  (100, List.replicate 451 (.int 0)),
  (100, List.replicate 3608 (.int 0)),
  (100, List.replicate 451 (.int 0)),
  (100, List.replicate 600 (.int 0)),
  (100, [.int 108, .int 101, .int 116, .int 116, .int 101, .int 114, .int 115, .int 32, .int 51, .int 59, .int 32, .int 116, .int 101, .int 120, .int 116, .int 32, .int 97, .int 98, .int 97, .int 99, .int 97, .int 98, .int 97, .int 97, .int 98, .int 97, .int 99, .int 99, .int 59, .int 32, .int 107, .int 101, .int 101, .int 112, .int 32, .int 48, .int 59, .int 32, .int 107, .int 101, .int 101, .int 112, .int 32, .int 49, .int 59, .int 32, .int 97, .int 112, .int 112, .int 101, .int 110, .int 100, .int 32, .int 97, .int 98, .int 59, .int 32, .int 114, .int 111, .int 116, .int 97, .int 116, .int 101, .int 32, .int 50, .int 59] ++ List.replicate 534 (.int 0)),
  (100, [.int 0, .int 1, .int 0, .int 2, .int 0, .int 1, .int 0, .int 0, .int 1, .int 0, .int 2, .int 2, .int 0, .int 1] ++ List.replicate 116 (.int 0)),
  (100, [.int 0, .int 4, .int 6, .int 12] ++ List.replicate 126 (.int 0)),
  (102, List.replicate 400 (.int 0)),
  (100, [.int 1] ++ List.replicate 1 (.int 0))]
def zp_14 : zH := za_h1 ++ [(5, [.ref 233, .ref 234, .ref 235, .ref 236, .int 0, .int 0, .ref 237, .ref 238, .ref 239, .ref 240, .int 0, .int 66, .int 0, .int (-1), .int 14, .ref 241, .int 0, .int 0, .int 1, .int 65, .int 66, .int 0, .int 5, .ref 242]),
  (100, [.int 3, .int 14, .int 2, .int 0, .int 2, .int 0, .int 1, .int 0, .int 0, .int 1, .int 0, .int 2, .int 2, .int 0, .int 1, .int 0, .int 1, .int 0, .int 0, .int 0, .int 0, .int 0, .int 0, .int 0, .int 0, .int 0, .int 0, .int 0, .int 0, .int 0, .int 0, .int 0, .int 0, .int 0, .int 0, .int 0, .int 0, .int 0, .int 0, .int 0, .int 0, .int 0, .int 0, .int 0, .int 0, .int 0, .int 0, .int 0, .int 0, .int 0, .int 0, .int 0, .int 0, .int 0, .int 0, .int 0, .int 0, .int 0, .int 0, .int 0, .int 0, .int 0, .int 0, .int 0, .int 0, .int 0, .int 0, .int 0, .int 0, .int 0, .int 0, .int 0, .int 0, .int 0, .int 0, .int 0, .int 0, .int 0, .int 0, .int 0, .int 0, .int 0, .int 0, .int 0, .int 0, .int 0, .int 0, .int 0, .int 0, .int 0, .int 0, .int 0, .int 0, .int 0, .int 0, .int 0, .int 0, .int 0, .int 0, .int 0, .int 0, .int 0, .int 0, .int 0, .int 0, .int 0, .int 0, .int 0, .int 0, .int 0, .int 0, .int 0, .int 0, .int 0, .int 0, .int 0, .int 0, .int 0, .int 0, .int 0, .int 0, .int 0, .int 0, .int 4, .int 2, .int 0, .int 0, .int 0, .int 0, .int 0, .int 0, .int 0, .int 1, .int 0, .int 2, .int 0, .int 0, .int 0, .int 0, .int 0, .int 0, .int 0, .int 0, .int 0, .int 0, .int 0, .int 0, .int 0, .int 0, .int 0, .int 0, .int 0, .int 0, .int 0, .int 0, .int 0, .int 0, .int 0, .int 0, .int 0, .int 0, .int 0, .int 0, .int 0, .int 0, .int 0, .int 0, .int 0, .int 0, .int 0, .int 0, .int 0, .int 1] ++ List.replicate 278 (.int 0)),
  (100, List.replicate 451 (.int 0)),
  (100, List.replicate 3608 (.int 0)),
  (100, List.replicate 451 (.int 0)),
  (100, List.replicate 600 (.int 0)),
  (100, [.int 108, .int 101, .int 116, .int 116, .int 101, .int 114, .int 115, .int 32, .int 51, .int 59, .int 32, .int 116, .int 101, .int 120, .int 116, .int 32, .int 97, .int 98, .int 97, .int 99, .int 97, .int 98, .int 97, .int 97, .int 98, .int 97, .int 99, .int 99, .int 59, .int 32, .int 107, .int 101, .int 101, .int 112, .int 32, .int 48, .int 59, .int 32, .int 107, .int 101, .int 101, .int 112, .int 32, .int 49, .int 59, .int 32, .int 97, .int 112, .int 112, .int 101, .int 110, .int 100, .int 32, .int 97, .int 98, .int 59, .int 32, .int 114, .int 111, .int 116, .int 97, .int 116, .int 101, .int 32, .int 50, .int 59] ++ List.replicate 534 (.int 0)),
  (100, [.int 0, .int 2, .int 0, .int 1, .int 0, .int 0, .int 1, .int 0, .int 2, .int 2, .int 0, .int 1, .int 0, .int 1] ++ List.replicate 116 (.int 0)),
  (100, [.int 0, .int 2, .int 4, .int 14] ++ List.replicate 126 (.int 0)),
  (102, List.replicate 400 (.int 0)),
  (100, [.int 2] ++ List.replicate 1 (.int 0))]
def zp_15 : zH := za_h1 ++ [(5, [.ref 233, .ref 234, .ref 235, .ref 236, .int 0, .int 0, .ref 237, .ref 238, .ref 239, .ref 240, .int 0, .int 66, .int 0, .int (-1), .int 14, .ref 241, .int 0, .int 0, .int 0, .int 66, .int 66, .int 0, .int 5, .ref 242]),
  (100, [.int 3, .int 14, .int 2, .int 0, .int 2, .int 0, .int 1, .int 0, .int 0, .int 1, .int 0, .int 2, .int 2, .int 0, .int 1, .int 0, .int 1, .int 0, .int 0, .int 0, .int 0, .int 0, .int 0, .int 0, .int 0, .int 0, .int 0, .int 0, .int 0, .int 0, .int 0, .int 0, .int 0, .int 0, .int 0, .int 0, .int 0, .int 0, .int 0, .int 0, .int 0, .int 0, .int 0, .int 0, .int 0, .int 0, .int 0, .int 0, .int 0, .int 0, .int 0, .int 0, .int 0, .int 0, .int 0, .int 0, .int 0, .int 0, .int 0, .int 0, .int 0, .int 0, .int 0, .int 0, .int 0, .int 0, .int 0, .int 0, .int 0, .int 0, .int 0, .int 0, .int 0, .int 0, .int 0, .int 0, .int 0, .int 0, .int 0, .int 0, .int 0, .int 0, .int 0, .int 0, .int 0, .int 0, .int 0, .int 0, .int 0, .int 0, .int 0, .int 0, .int 0, .int 0, .int 0, .int 0, .int 0, .int 0, .int 0, .int 0, .int 0, .int 0, .int 0, .int 0, .int 0, .int 0, .int 0, .int 0, .int 0, .int 0, .int 0, .int 0, .int 0, .int 0, .int 0, .int 0, .int 0, .int 0, .int 0, .int 0, .int 0, .int 0, .int 0, .int 4, .int 2, .int 0, .int 0, .int 0, .int 0, .int 0, .int 0, .int 0, .int 1, .int 0, .int 2, .int 0, .int 0, .int 0, .int 0, .int 0, .int 0, .int 0, .int 0, .int 0, .int 0, .int 0, .int 0, .int 0, .int 0, .int 0, .int 0, .int 0, .int 0, .int 0, .int 0, .int 0, .int 0, .int 0, .int 0, .int 0, .int 0, .int 0, .int 0, .int 0, .int 0, .int 0, .int 0, .int 0, .int 0, .int 0, .int 0, .int 0, .int 1] ++ List.replicate 278 (.int 0)),
  (100, List.replicate 451 (.int 0)),
  (100, List.replicate 3608 (.int 0)),
  (100, List.replicate 451 (.int 0)),
  (100, List.replicate 600 (.int 0)),
  (100, [.int 108, .int 101, .int 116, .int 116, .int 101, .int 114, .int 115, .int 32, .int 51, .int 59, .int 32, .int 116, .int 101, .int 120, .int 116, .int 32, .int 97, .int 98, .int 97, .int 99, .int 97, .int 98, .int 97, .int 97, .int 98, .int 97, .int 99, .int 99, .int 59, .int 32, .int 107, .int 101, .int 101, .int 112, .int 32, .int 48, .int 59, .int 32, .int 107, .int 101, .int 101, .int 112, .int 32, .int 49, .int 59, .int 32, .int 97, .int 112, .int 112, .int 101, .int 110, .int 100, .int 32, .int 97, .int 98, .int 59, .int 32, .int 114, .int 111, .int 116, .int 97, .int 116, .int 101, .int 32, .int 50, .int 59] ++ List.replicate 534 (.int 0)),
  (100, [.int 0, .int 2, .int 0, .int 1, .int 0, .int 0, .int 1, .int 0, .int 2, .int 2, .int 0, .int 1, .int 0, .int 1] ++ List.replicate 116 (.int 0)),
  (100, [.int 0, .int 2, .int 4, .int 14] ++ List.replicate 126 (.int 0)),
  (102, List.replicate 400 (.int 0)),
  (100, [.int 2] ++ List.replicate 1 (.int 0))]
def zp_a : zH := za_h1 ++ [(5, [.ref 233, .ref 234, .ref 235, .ref 236, .int 0, .int 0, .ref 237, .ref 238, .ref 239, .ref 240, .int 0, .int 66, .int 0, .int (-1), .int 0, .ref 241, .int 0, .int 0, .int 0, .int 0, .int 0, .int 0, .int 0, .ref 242]),
  (100, List.replicate 451 (.int 0)),
  (100, List.replicate 451 (.int 0)),
  (100, List.replicate 3608 (.int 0)),
  (100, List.replicate 451 (.int 0)),
  (100, List.replicate 600 (.int 0)),
  (100, [.int 108, .int 101, .int 116, .int 116, .int 101, .int 114, .int 115, .int 32, .int 51, .int 59, .int 32, .int 116, .int 101, .int 120, .int 116, .int 32, .int 97, .int 98, .int 97, .int 99, .int 97, .int 98, .int 97, .int 97, .int 98, .int 97, .int 99, .int 99, .int 59, .int 32, .int 107, .int 101, .int 101, .int 112, .int 32, .int 48, .int 59, .int 32, .int 107, .int 101, .int 101, .int 112, .int 32, .int 49, .int 59, .int 32, .int 97, .int 112, .int 112, .int 101, .int 110, .int 100, .int 32, .int 97, .int 98, .int 59, .int 32, .int 114, .int 111, .int 116, .int 97, .int 116, .int 101, .int 32, .int 50, .int 59] ++ List.replicate 534 (.int 0)),
  (100, List.replicate 130 (.int 0)),
  (100, List.replicate 130 (.int 0)),
  (102, List.replicate 400 (.int 0)),
  (100, List.replicate 2 (.int 0))]
def zp_b : zH := za_h1 ++ [(5, [.ref 233, .ref 234, .ref 235, .ref 236, .int 0, .int 0, .ref 237, .ref 238, .ref 239, .ref 240, .int 0, .int 66, .int 0, .int (-1), .int 0, .ref 241, .int 0, .int 0, .int 0, .int 0, .int 0, .int 0, .int 0, .ref 242]),
  (100, List.replicate 451 (.int 0)),
  (100, List.replicate 451 (.int 0)),
  (100, List.replicate 3608 (.int 0)),
  (100, List.replicate 451 (.int 0)),
  (100, List.replicate 600 (.int 0)),
  (100, [.int 108, .int 101, .int 116, .int 116, .int 101, .int 114, .int 115, .int 32, .int 51, .int 59, .int 32, .int 116, .int 101, .int 120, .int 116, .int 32, .int 97, .int 98, .int 97, .int 99, .int 97, .int 98, .int 97, .int 97, .int 98, .int 97, .int 99, .int 99, .int 59, .int 32, .int 107, .int 101, .int 101, .int 112, .int 32, .int 48, .int 59, .int 32, .int 107, .int 101, .int 101, .int 112, .int 32, .int 49, .int 59, .int 32, .int 97, .int 112, .int 112, .int 101, .int 110, .int 100, .int 32, .int 97, .int 98, .int 59, .int 32, .int 114, .int 111, .int 116, .int 97, .int 116, .int 101, .int 32, .int 50, .int 59] ++ List.replicate 534 (.int 0)),
  (100, List.replicate 130 (.int 0)),
  (100, List.replicate 130 (.int 0)),
  (102, List.replicate 400 (.int 0)),
  (100, List.replicate 2 (.int 0))]
def zp_c : zH := za_h1 ++ [(5, [.ref 233, .ref 234, .ref 235, .ref 236, .int 0, .int 0, .ref 237, .ref 238, .ref 239, .ref 240, .int 0, .int 66, .int 0, .int (-1), .int 0, .ref 241, .int 0, .int 0, .int 0, .int 0, .int 0, .int 0, .int 0, .ref 242]),
  (100, List.replicate 451 (.int 0)),
  (100, List.replicate 451 (.int 0)),
  (100, List.replicate 3608 (.int 0)),
  (100, List.replicate 451 (.int 0)),
  (100, List.replicate 600 (.int 0)),
  (100, [.int 108, .int 101, .int 116, .int 116, .int 101, .int 114, .int 115, .int 32, .int 51, .int 59, .int 32, .int 116, .int 101, .int 120, .int 116, .int 32, .int 97, .int 98, .int 97, .int 99, .int 97, .int 98, .int 97, .int 97, .int 98, .int 97, .int 99, .int 99, .int 59, .int 32, .int 107, .int 101, .int 101, .int 112, .int 32, .int 48, .int 59, .int 32, .int 107, .int 101, .int 101, .int 112, .int 32, .int 49, .int 59, .int 32, .int 97, .int 112, .int 112, .int 101, .int 110, .int 100, .int 32, .int 97, .int 98, .int 59, .int 32, .int 114, .int 111, .int 116, .int 97, .int 116, .int 101, .int 32, .int 50, .int 59] ++ List.replicate 534 (.int 0)),
  (100, List.replicate 130 (.int 0)),
  (100, List.replicate 130 (.int 0)),
  (102, List.replicate 400 (.int 0)),
  (100, List.replicate 2 (.int 0))]
theorem zp_sa : fS za_m1 232 5 12 (.int (Int32.ofInt 0)) = some zp_a := by decide +kernel
theorem zp_sb : fS zp_a 232 5 13 (.int (Int32.ofInt (-1))) = some zp_b := by decide +kernel
theorem zp_sc : fS zp_b 232 5 22 (.int (Int32.ofInt 0)) = some zp_c := by decide +kernel
theorem zp_sd : fS zp_c 232 5 20 (.int (Int32.ofInt 0)) = some zp_0 := by decide +kernel
theorem zp_t : fT zp_1 232 5 = true := by decide +kernel
theorem zp_t0 : fT za_m1 232 5 = true := by decide +kernel
theorem zp_r0 : fR zp_3 232 5 0 = some 233 := by decide +kernel
theorem zp_r23 : fR zp_3 232 5 23 = some 242 := by decide +kernel
theorem zp_r3 : fAI zp_3 242 100 (Int32.ofInt 0) = some (Int32.ofInt 3) := by decide +kernel
theorem zp_w0 : fAS zp_3 233 100 (Int32.ofInt 0) (.int (Int32.ofInt 3)) = some zp_4 := by decide +kernel
theorem zp_k5 : fI zp_5 232 5 18 = some (Int32.ofInt 2) := by decide +kernel
theorem zp_k7 : fI zp_7 232 5 18 = some (Int32.ofInt 2) := by decide +kernel
theorem zp_k9 : fI zp_9 232 5 18 = some (Int32.ofInt 2) := by decide +kernel
theorem zp_k11 : fI zp_11 232 5 18 = some (Int32.ofInt 2) := by decide +kernel
theorem zp_k13 : fI zp_13 232 5 18 = some (Int32.ofInt 2) := by decide +kernel
theorem zp_k15 : fI zp_15 232 5 18 = some (Int32.ofInt 0) := by decide +kernel
theorem zp_f0 : fM_next 700 232 zp_0 = some ((), zp_1) := by decide +kernel
theorem zp_f1 : fM_says 700 232 1000073 zp_1 = some (Int32.ofInt 1, zp_1) := by decide +kernel
theorem zp_f2 : fM_next 700 232 zp_1 = some ((), zp_2) := by decide +kernel
theorem zp_f3 : fM_number 700 232 (Int32.ofInt 0) (Int32.ofInt 2) (Int32.ofInt 9) zp_2 = some (Int32.ofInt 1, zp_3) := by decide +kernel
theorem zp_f4 : fM_is 700 232 (Int32.ofInt 1) zp_3 = some (Int32.ofInt 1, zp_3) := by decide +kernel
theorem zp_f5 : fM_next 700 232 zp_4 = some ((), zp_5) := by decide +kernel
theorem zp_f7 : fM_next 700 232 zp_6 = some ((), zp_7) := by decide +kernel
theorem zp_f9 : fM_next 700 232 zp_8 = some ((), zp_9) := by decide +kernel
theorem zp_f11 : fM_next 700 232 zp_10 = some ((), zp_11) := by decide +kernel
theorem zp_f13 : fM_next 700 232 zp_12 = some ((), zp_13) := by decide +kernel
theorem zp_f15 : fM_next 700 232 zp_14 = some ((), zp_15) := by decide +kernel

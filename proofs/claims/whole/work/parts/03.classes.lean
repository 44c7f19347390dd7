abbrev gi_cls : List vw_C := [(RX0, TX0, 15), (RX1, TX1, 6), (RX2, TX2, 2), (RX3, TX3, 2), (RX4, TX4, 1), (RX5, TX5, 6), (RX6, TX6, 16)]
def gi_dfX0 : List Value := [.int 0, .int 0, .int 0, .int 0, .int 0, .int 0, .null, .null, .null, .null, .null, .null, .null, .null, .null]
def gi_dfX1 : List Value := [.null, .int 0, .int 0, .int 0, .int 0, .int 0]
def gi_dfX2 : List Value := [.null, .null]
def gi_dfX3 : List Value := [.int 0, .null]
def gi_dfX4 : List Value := [.null]
def gi_dfX5 : List Value := [.null, .null, .null, .null, .null, .null]
def gi_dfX6 : List Value := [.null, .null, .int 0, .null, .int 0, .null, .int 0, .int 0, .int 0, .int 0, .int 0, .long 0, .null, .null, .null, .null]
def gi_df : Nat → List Value := fun c => match c with
  | 0 => gi_dfX0
  | 1 => gi_dfX1
  | 2 => gi_dfX2
  | 3 => gi_dfX3
  | 4 => gi_dfX4
  | 5 => gi_dfX5
  | _ => gi_dfX6

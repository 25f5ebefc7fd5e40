/-! NAMES, by program: classes, methods as tables -/
def RX0 : String := "LockDesk"
def TX0 : u_T := fun k => match k with
  | 0 => ("LockDesk", "states", "[I", true)
  | 1 => ("LockDesk", "priorities", "[I", true)
  | 2 => ("LockDesk", "awaited", "[I", true)
  | 3 => ("LockDesk", "wanted", "[I", true)
  | 4 => ("LockDesk", "begun", "I", false)
  | 5 => ("LockDesk", "holders", "[J", true)
  | 6 => ("LockDesk", "line", "[I", true)
  | 7 => ("LockDesk", "lineLength", "I", false)
  | 8 => ("LockDesk", "waitRows", "[J", true)
  | 9 => ("LockDesk", "abortedInCircles", "I", false)
  | 10 => ("LockDesk", "grantedAtOnce", "I", false)
  | _ => ("LockDesk", "grantedLater", "I", false)
-- X0: 12 fields
def RX1 : String := "LockDeskModel"
def TX1 : u_T := fun k => match k with
  | 0 => ("LockDeskModel", "code", "I", false)
  | 1 => ("LockDeskModel", "many", "I", false)
  | 2 => ("LockDeskModel", "priorities", "[I", true)
  | 3 => ("LockDeskModel", "states", "[I", true)
  | 4 => ("LockDeskModel", "held", "[I", true)
  | 5 => ("LockDeskModel", "waitsAt", "[I", true)
  | 6 => ("LockDeskModel", "wanted", "[I", true)
  | 7 => ("LockDeskModel", "converts", "[Z", true)
  | 8 => ("LockDeskModel", "queueSize", "[I", true)
  | 9 => ("LockDeskModel", "queue", "[I", true)
  | 10 => ("LockDeskModel", "victims", "I", false)
  | 11 => ("LockDeskModel", "atOnce", "I", false)
  | _ => ("LockDeskModel", "later", "I", false)
-- X1: 13 fields
abbrev vwCl : List vw_C := [(RX0, TX0, 12), (RX1, TX1, 13)]
def aq_str : List (Nat × String) := [(50, "the priority is not 0 .. 99"), (57, "there are 60 transactions"), (67, "there is no such mode"), (76, "the object above is not held as it must be"), (102, "the transaction has ended"), (104, "the object is not held"), (123, "what is none of 0 .. 4"), (146, "there is no such place"), (162, "there is no such transaction"), (164, "there is no such object"), (166, "the transaction is not active")]

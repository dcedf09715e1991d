/-! WHERE EVERYTHING LIES behind the two constructors: ids 7..80 the class, 81..97 the reference, texts from 98 on, seven cells each -/
def lyB (L id : Nat) : Nat × Nat := (bif Nat.ble 49 id then (bif Nat.ble 73 id then (bif Nat.ble 85 id then (bif Nat.ble 91 id then (bif Nat.ble 94 id then (bif Nat.ble 96 id then (bif Nat.ble 97 id then (20, 64) else (20, 64)) else (bif Nat.ble 95 id then (20, 64) else (20, 64))) else (bif Nat.ble 92 id then (bif Nat.ble 93 id then (20, 30) else (20, 38)) else (20, 30))) else (bif Nat.ble 88 id then (bif Nat.ble 89 id then (bif Nat.ble 90 id then (22, 330) else (21, 330)) else (20, 30)) else (bif Nat.ble 86 id then (bif Nat.ble 87 id then (20, 11) else (20, 160)) else (20, 300)))) else (bif Nat.ble 79 id then (bif Nat.ble 82 id then (bif Nat.ble 83 id then (bif Nat.ble 84 id then (20, 2724) else (20, 1726)) else (20, 1726)) else (bif Nat.ble 80 id then (bif Nat.ble 81 id then (12, 33) else (20, 30)) else (20, 169))) else (bif Nat.ble 76 id then (bif Nat.ble 77 id then (bif Nat.ble 78 id then (2, 3) else (20, 64)) else (20, 64)) else (bif Nat.ble 74 id then (bif Nat.ble 75 id then (20, 64) else (20, 64)) else (8, 6))))) else (bif Nat.ble 61 id then (bif Nat.ble 67 id then (bif Nat.ble 70 id then (bif Nat.ble 71 id then (bif Nat.ble 72 id then (6, 5) else (20, 32)) else (20, 301)) else (bif Nat.ble 68 id then (bif Nat.ble 69 id then (20, 300) else (9, 7)) else (23, 4))) else (bif Nat.ble 64 id then (bif Nat.ble 65 id then (bif Nat.ble 66 id then (20, 30) else (20, 5)) else (20, 5)) else (bif Nat.ble 62 id then (bif Nat.ble 63 id then (20, 5) else (3, 11)) else (20, 12)))) else (bif Nat.ble 55 id then (bif Nat.ble 58 id then (bif Nat.ble 59 id then (bif Nat.ble 60 id then (20, 8) else (20, 8)) else (4, 3)) else (bif Nat.ble 56 id then (bif Nat.ble 57 id then (20, 8) else (20, 8)) else (4, 3))) else (bif Nat.ble 52 id then (bif Nat.ble 53 id then (bif Nat.ble 54 id then (20, 6) else (20, 6)) else (4, 3)) else (bif Nat.ble 50 id then (bif Nat.ble 51 id then (20, 6) else (20, 6)) else (4, 3)))))) else (bif Nat.ble 24 id then (bif Nat.ble 36 id then (bif Nat.ble 42 id then (bif Nat.ble 45 id then (bif Nat.ble 47 id then (bif Nat.ble 48 id then (20, 1560) else (20, 30)) else (bif Nat.ble 46 id then (20, 5) else (20, 5))) else (bif Nat.ble 43 id then (bif Nat.ble 44 id then (20, 5) else (3, 11)) else (20, 30))) else (bif Nat.ble 39 id then (bif Nat.ble 40 id then (bif Nat.ble 41 id then (20, 30) else (0, 13)) else (20, 900)) else (bif Nat.ble 37 id then (bif Nat.ble 38 id then (20, 11) else (20, 64)) else (7, 2)))) else (bif Nat.ble 30 id then (bif Nat.ble 33 id then (bif Nat.ble 34 id then (bif Nat.ble 35 id then (20, 11) else (20, 64)) else (7, 2)) else (bif Nat.ble 31 id then (bif Nat.ble 32 id then (20, 12) else (20, 8)) else (20, 8))) else (bif Nat.ble 27 id then (bif Nat.ble 28 id then (bif Nat.ble 29 id then (4, 3) else (20, 8)) else (20, 8)) else (bif Nat.ble 25 id then (bif Nat.ble 26 id then (4, 3) else (20, 6)) else (20, 6))))) else (bif Nat.ble 12 id then (bif Nat.ble 18 id then (bif Nat.ble 21 id then (bif Nat.ble 22 id then (bif Nat.ble 23 id then (4, 3) else (20, 6)) else (20, 6)) else (bif Nat.ble 19 id then (bif Nat.ble 20 id then (4, 3) else (20, 1560)) else (20, 30))) else (bif Nat.ble 15 id then (bif Nat.ble 16 id then (bif Nat.ble 17 id then (20, 5) else (20, 5)) else (20, 5)) else (bif Nat.ble 13 id then (bif Nat.ble 14 id then (3, 11) else (20, 30)) else (20, 30)))) else (bif Nat.ble 6 id then (bif Nat.ble 9 id then (bif Nat.ble 10 id then (bif Nat.ble 11 id then (0, 13) else (20, 900)) else (5, 3)) else (bif Nat.ble 7 id then (bif Nat.ble 8 id then (1, 10) else (11, 11)) else (99, 0))) else (bif Nat.ble 3 id then (bif Nat.ble 4 id then (bif Nat.ble 5 id then (24, 11) else (13, 2)) else (24, 151)) else (bif Nat.ble 1 id then (bif Nat.ble 2 id then (13, 2) else (25, 11)) else (25, L)))))))
def lyT (j : Nat) : Nat × Nat := match j with
  | 0 => (10, 8)
  | 1 => (20, 24)
  | 2 => (20, 24)
  | 3 => (20, 24)
  | 4 => (20, 300)
  | 5 => (20, 3)
  | _ => (20, 3)
/-- the shapes, t texts having been made -/
def lySh (L t : Nat) : Nat → Nat × Nat := fun id => bif Nat.ble 98 id then (bif Nat.blt id (98 + 7 * t) then lyT ((id - 98) % 7) else (99, 0)) else lyB L id
def lyMe (L t : Nat) : Nat × Nat × (Nat → Nat × Nat) := (98 + 7 * t, 14409 + 386 * t, lySh L t)
def lyR_2 (lt rt rp : Option Nat) (sw : Bool) (t : Nat) : Nat → Option Nat := (fun k => match k with
    | 0 => some 3
    | _ => none)
def lyR_4 (lt rt rp : Option Nat) (sw : Bool) (t : Nat) : Nat → Option Nat := (fun k => match k with
    | 0 => some 5
    | _ => none)
def lyR_7 (lt rt rp : Option Nat) (sw : Bool) (t : Nat) : Nat → Option Nat := (fun k => match k with
    | 0 => some 8
    | 1 => some 11
    | 2 => some 9
    | 3 => some 40
    | 4 => some 62
    | 5 => some 67
    | 6 => some 68
    | 7 => some 72
    | 8 => some 73
    | 9 => some 78
    | 10 => some 80
    | _ => none)
def lyR_8 (lt rt rp : Option Nat) (sw : Bool) (t : Nat) : Nat → Option Nat := (fun k => match k with
    | 0 => some 9
    | 1 => some 11
    | 2 => some 33
    | 3 => some 36
    | 4 => lt
    | 8 => some 39
    | _ => none)
def lyR_9 (lt rt rp : Option Nat) (sw : Bool) (t : Nat) : Nat → Option Nat := (fun k => match k with
    | 2 => some 10
    | _ => none)
def lyR_11 (lt rt rp : Option Nat) (sw : Bool) (t : Nat) : Nat → Option Nat := (fun k => match k with
    | 0 => some 12
    | 1 => some 13
    | 2 => some 14
    | 3 => some 19
    | 6 => some 20
    | 7 => some 23
    | 8 => some 26
    | 9 => some 29
    | 10 => some 32
    | _ => none)
def lyR_14 (lt rt rp : Option Nat) (sw : Bool) (t : Nat) : Nat → Option Nat := (fun k => match k with
    | 5 => some 15
    | 6 => some 16
    | 7 => some 17
    | 8 => some 18
    | _ => none)
def lyR_20 (lt rt rp : Option Nat) (sw : Bool) (t : Nat) : Nat → Option Nat := (fun k => match k with
    | 0 => some 21
    | 1 => some 22
    | _ => none)
def lyR_23 (lt rt rp : Option Nat) (sw : Bool) (t : Nat) : Nat → Option Nat := (fun k => match k with
    | 0 => some 24
    | 1 => some 25
    | _ => none)
def lyR_26 (lt rt rp : Option Nat) (sw : Bool) (t : Nat) : Nat → Option Nat := (fun k => match k with
    | 0 => some 27
    | 1 => some 28
    | _ => none)
def lyR_29 (lt rt rp : Option Nat) (sw : Bool) (t : Nat) : Nat → Option Nat := (fun k => match k with
    | 0 => some 30
    | 1 => some 31
    | _ => none)
def lyR_33 (lt rt rp : Option Nat) (sw : Bool) (t : Nat) : Nat → Option Nat := (fun k => match k with
    | 0 => some 34
    | 1 => some 35
    | _ => none)
def lyR_36 (lt rt rp : Option Nat) (sw : Bool) (t : Nat) : Nat → Option Nat := (fun k => match k with
    | 0 => some 37
    | 1 => some 38
    | _ => none)
def lyR_40 (lt rt rp : Option Nat) (sw : Bool) (t : Nat) : Nat → Option Nat := (fun k => match k with
    | 0 => some 41
    | 1 => some 42
    | 2 => some 43
    | 3 => some 48
    | 6 => some 49
    | 7 => some 52
    | 8 => some 55
    | 9 => some 58
    | 10 => some 61
    | _ => none)
def lyR_43 (lt rt rp : Option Nat) (sw : Bool) (t : Nat) : Nat → Option Nat := (fun k => match k with
    | 5 => some 44
    | 6 => some 45
    | 7 => some 46
    | 8 => some 47
    | _ => none)
def lyR_49 (lt rt rp : Option Nat) (sw : Bool) (t : Nat) : Nat → Option Nat := (fun k => match k with
    | 0 => some 50
    | 1 => some 51
    | _ => none)
def lyR_52 (lt rt rp : Option Nat) (sw : Bool) (t : Nat) : Nat → Option Nat := (fun k => match k with
    | 0 => some 53
    | 1 => some 54
    | _ => none)
def lyR_55 (lt rt rp : Option Nat) (sw : Bool) (t : Nat) : Nat → Option Nat := (fun k => match k with
    | 0 => some 56
    | 1 => some 57
    | _ => none)
def lyR_58 (lt rt rp : Option Nat) (sw : Bool) (t : Nat) : Nat → Option Nat := (fun k => match k with
    | 0 => some 59
    | 1 => some 60
    | _ => none)
def lyR_62 (lt rt rp : Option Nat) (sw : Bool) (t : Nat) : Nat → Option Nat := (fun k => match k with
    | 5 => some 63
    | 6 => some 64
    | 7 => some 65
    | 8 => some 66
    | _ => none)
def lyR_67 (lt rt rp : Option Nat) (sw : Bool) (t : Nat) : Nat → Option Nat := (fun k => bif Nat.blt k t then some (98 + 7 * k) else none)
def lyR_68 (lt rt rp : Option Nat) (sw : Bool) (t : Nat) : Nat → Option Nat := (fun k => match k with
    | 0 => some 69
    | 2 => some 70
    | 6 => some 71
    | _ => none)
def lyR_72 (lt rt rp : Option Nat) (sw : Bool) (t : Nat) : Nat → Option Nat := (fun k => match k with
    | 0 => rp
    | 1 => rt
    | _ => none)
def lyR_73 (lt rt rp : Option Nat) (sw : Bool) (t : Nat) : Nat → Option Nat := (fun k => match k with
    | 0 => some (bif sw then 76 else 74)
    | 1 => some (bif sw then 77 else 75)
    | 2 => some (bif sw then 74 else 76)
    | 3 => some (bif sw then 75 else 77)
    | _ => none)
def lyR_78 (lt rt rp : Option Nat) (sw : Bool) (t : Nat) : Nat → Option Nat := (fun k => match k with
    | 0 => some 79
    | _ => none)
def lyR_81 (lt rt rp : Option Nat) (sw : Bool) (t : Nat) : Nat → Option Nat := (fun k => match k with
    | 0 => some 82
    | 1 => some 83
    | 2 => some 84
    | 3 => some 85
    | 15 => some 86
    | 20 => some 87
    | 21 => some 88
    | 22 => some 89
    | 23 => some 90
    | 24 => some 91
    | 27 => some 92
    | 28 => some 93
    | 29 => some 94
    | 30 => some 95
    | 31 => some 96
    | 32 => some 97
    | _ => none)
/-- the references: lt the text that the laws know, rt and rp the reader's text and tape, sw whether the seats' rows are swapped, t how many texts were made -/
def lyRB (lt rt rp : Option Nat) (sw : Bool) (t : Nat) (id : Nat) : Nat → Option Nat := (bif Nat.ble 37 id then (bif Nat.ble 59 id then (bif Nat.ble 72 id then (bif Nat.ble 78 id then (bif Nat.ble 81 id then (bif Nat.ble 82 id then (fun _ => none) else (lyR_81 lt rt rp sw t)) else (bif Nat.ble 79 id then (fun _ => none) else (lyR_78 lt rt rp sw t))) else (bif Nat.ble 73 id then (bif Nat.ble 74 id then (fun _ => none) else (lyR_73 lt rt rp sw t)) else (lyR_72 lt rt rp sw t))) else (bif Nat.ble 67 id then (bif Nat.ble 68 id then (bif Nat.ble 69 id then (fun _ => none) else (lyR_68 lt rt rp sw t)) else (lyR_67 lt rt rp sw t)) else (bif Nat.ble 62 id then (bif Nat.ble 63 id then (fun _ => none) else (lyR_62 lt rt rp sw t)) else (fun _ => none)))) else (bif Nat.ble 50 id then (bif Nat.ble 55 id then (bif Nat.ble 56 id then (bif Nat.ble 58 id then (lyR_58 lt rt rp sw t) else (fun _ => none)) else (lyR_55 lt rt rp sw t)) else (bif Nat.ble 52 id then (bif Nat.ble 53 id then (fun _ => none) else (lyR_52 lt rt rp sw t)) else (fun _ => none))) else (bif Nat.ble 43 id then (bif Nat.ble 44 id then (bif Nat.ble 49 id then (lyR_49 lt rt rp sw t) else (fun _ => none)) else (lyR_43 lt rt rp sw t)) else (bif Nat.ble 40 id then (bif Nat.ble 41 id then (fun _ => none) else (lyR_40 lt rt rp sw t)) else (fun _ => none))))) else (bif Nat.ble 15 id then (bif Nat.ble 27 id then (bif Nat.ble 33 id then (bif Nat.ble 34 id then (bif Nat.ble 36 id then (lyR_36 lt rt rp sw t) else (fun _ => none)) else (lyR_33 lt rt rp sw t)) else (bif Nat.ble 29 id then (bif Nat.ble 30 id then (fun _ => none) else (lyR_29 lt rt rp sw t)) else (fun _ => none))) else (bif Nat.ble 23 id then (bif Nat.ble 24 id then (bif Nat.ble 26 id then (lyR_26 lt rt rp sw t) else (fun _ => none)) else (lyR_23 lt rt rp sw t)) else (bif Nat.ble 20 id then (bif Nat.ble 21 id then (fun _ => none) else (lyR_20 lt rt rp sw t)) else (fun _ => none)))) else (bif Nat.ble 8 id then (bif Nat.ble 11 id then (bif Nat.ble 12 id then (bif Nat.ble 14 id then (lyR_14 lt rt rp sw t) else (fun _ => none)) else (lyR_11 lt rt rp sw t)) else (bif Nat.ble 9 id then (bif Nat.ble 10 id then (fun _ => none) else (lyR_9 lt rt rp sw t)) else (lyR_8 lt rt rp sw t))) else (bif Nat.ble 4 id then (bif Nat.ble 5 id then (bif Nat.ble 7 id then (lyR_7 lt rt rp sw t) else (fun _ => none)) else (lyR_4 lt rt rp sw t)) else (bif Nat.ble 2 id then (bif Nat.ble 3 id then (fun _ => none) else (lyR_2 lt rt rp sw t)) else (fun _ => none))))))
def lyRT (o : Nat) : Nat → Option Nat := fun k => match k with
  | 0 => some (o + 1)
  | 1 => some (o + 2)
  | 2 => some (o + 3)
  | 4 => some (o + 4)
  | 6 => some (o + 5)
  | 7 => some (o + 6)
  | _ => none
def lyR (lt rt rp : Option Nat) (sw : Bool) (t : Nat) : Nat → Nat → Option Nat := fun id => bif Nat.ble 98 id then (bif Nat.blt id (98 + 7 * t) && Nat.beq ((id - 98) % 7) 0 then lyRT id else (fun _ => none)) else lyRB lt rt rp sw t id
theorem ly_t1 (L t : Nat) : (lyMe L t).2.2 12 = (20, 30) := rfl
theorem ly_t2 (lt rt rp : Option Nat) (sw : Bool) (t : Nat) : lyR lt rt rp sw t 11 2 = some 14 := rfl

/-! PURE 86: the constructors -/
theorem hset_len {h : AH} {p : Nat} {o : AO} : (hset h p o).1.length = h.1.length := List.length_set ..
theorem tl0 (l : List AV) : Option.toList (none : Option AV) ++ l = l := rfl
theorem tln : Option.toList (none : Option AV) = [] := rfl
def G0_ : AH := ([], 0)
def G1_ : AH := hpush G0_ (oO 11 [aN, aN, aN, aN, aN, aN, aN, aN, aN, aN, aN, aN, aI 0, aN, aN, aN, aI 0])
def G2_ : AH := hpush G1_ (oO 9 [aN, aI 0, aI 0, aI 0, aN])
def G3_ : AH := hpush G2_ (oI 1 120 (fun _ => 0))
def G4_ : AH := hset G3_ 1 (oO 9 [aD 2, aI 0, aI 0, aI 0, aN])
def G5_ : AH := hpush G4_ (oO 8 [aN, aI 0])
def G6_ : AH := hpush G5_ (oI 0 150 (fun _ => 0))
def G7_ : AH := hset G6_ 3 (oO 8 [aD 4, aI 0])
def G8_ : AH := hset G7_ 1 (oO 9 [aD 2, aI 0, aI 0, aI 0, aD 3])
def G9_ : AH := hset G8_ 0 (oO 11 [aD 1, aN, aN, aN, aN, aN, aN, aN, aN, aN, aN, aN, aI 0, aN, aN, aN, aI 0])
def G10_ : AH := hpush G9_ (oO 10 [aN, aI 0])
def G11_ : AH := hpush G10_ (oI 1 840 (fun _ => 0))
def G12_ : AH := hset G11_ 5 (oO 10 [aD 6, aI 0])
def G13_ : AH := hset G12_ 0 (oO 11 [aD 1, aD 5, aN, aN, aN, aN, aN, aN, aN, aN, aN, aN, aI 0, aN, aN, aN, aI 0])
def G14_ : AH := hpush G13_ (oO 8 [aN, aI 0])
def G15_ : AH := hpush G14_ (oI 0 150 (fun _ => 0))
def G16_ : AH := hset G15_ 7 (oO 8 [aD 8, aI 0])
def G17_ : AH := hset G16_ 0 (oO 11 [aD 1, aD 5, aD 7, aN, aN, aN, aN, aN, aN, aN, aN, aN, aI 0, aN, aN, aN, aI 0])
def G18_ : AH := hpush G17_ (oO 8 [aN, aI 0])
def G19_ : AH := hpush G18_ (oI 0 300 (fun _ => 0))
def G20_ : AH := hset G19_ 9 (oO 8 [aD 10, aI 0])
def G21_ : AH := hset G20_ 0 (oO 11 [aD 1, aD 5, aD 7, aD 9, aN, aN, aN, aN, aN, aN, aN, aN, aI 0, aN, aN, aN, aI 0])
def G22_ : AH := hpush G21_ (oO 5 [aN, aN, aN, aN, aN])
def G23_ : AH := hpush G22_ (oI 0 61 (fun _ => 0))
def G24_ : AH := hset G23_ 11 (oO 5 [aN, aD 12, aN, aN, aN])
def G25_ : AH := hpush G24_ (oI 0 60 (fun _ => 0))
def G26_ : AH := hset G25_ 11 (oO 5 [aN, aD 12, aD 13, aN, aN])
def G27_ : AH := hpush G26_ (oI 0 60 (fun _ => 0))
def G28_ : AH := hset G27_ 11 (oO 5 [aN, aD 12, aD 13, aD 14, aN])
def G29_ : AH := hpush G28_ (oI 3 61 (fun _ => 0))
def G30_ : AH := hset G29_ 11 (oO 5 [aN, aD 12, aD 13, aD 14, aD 15])
def G31_ : AH := hset G30_ 11 (oO 5 [aD 9, aD 12, aD 13, aD 14, aD 15])
def G32_ : AH := hset G31_ 0 (oO 11 [aD 1, aD 5, aD 7, aD 9, aD 11, aN, aN, aN, aN, aN, aN, aN, aI 0, aN, aN, aN, aI 0])
def G33_ : AH := hpush G32_ (oO 4 [aN, aN])
def G34_ : AH := hset G33_ 16 (oO 4 [aD 9, aN])
def G35_ : AH := hset G34_ 16 (oO 4 [aD 9, aD 11])
def G36_ : AH := hset G35_ 0 (oO 11 [aD 1, aD 5, aD 7, aD 9, aD 11, aD 16, aN, aN, aN, aN, aN, aN, aI 0, aN, aN, aN, aI 0])
def G37_ : AH := hpush G36_ (oO 6 [aN, aI 0, aI 0])
def FR0 : Nat → AV := fun _ => aN
def G38_ : AH := hpush G37_ (oR 8 (fun _ => aN))
def G39_ : AH := hset G38_ 17 (oO 6 [aD 18, aI 0, aI 0])
def G40_ : AH := hpush G39_ (oO 8 [aN, aI 0])
def G41_ : AH := hpush G40_ (oI 0 300 (fun _ => 0))
def G42_ : AH := hset G41_ 19 (oO 8 [aD 20, aI 0])
def FR1 : Nat → AV := fun j => if j = (nI 0).toNatClampNeg then aD 19 else FR0 j
def G43_ : AH := hset G42_ 18 (oR 8 FR1)
def G44_ : AH := hpush G43_ (oO 8 [aN, aI 0])
def G45_ : AH := hpush G44_ (oI 0 300 (fun _ => 0))
def G46_ : AH := hset G45_ 21 (oO 8 [aD 22, aI 0])
def FR2 : Nat → AV := fun j => if j = (nI 1).toNatClampNeg then aD 21 else FR1 j
def G47_ : AH := hset G46_ 18 (oR 8 FR2)
def G48_ : AH := hpush G47_ (oO 8 [aN, aI 0])
def G49_ : AH := hpush G48_ (oI 0 300 (fun _ => 0))
def G50_ : AH := hset G49_ 23 (oO 8 [aD 24, aI 0])
def FR3 : Nat → AV := fun j => if j = (nI 2).toNatClampNeg then aD 23 else FR2 j
def G51_ : AH := hset G50_ 18 (oR 8 FR3)
def G52_ : AH := hpush G51_ (oO 8 [aN, aI 0])
def G53_ : AH := hpush G52_ (oI 0 300 (fun _ => 0))
def G54_ : AH := hset G53_ 25 (oO 8 [aD 26, aI 0])
def FR4 : Nat → AV := fun j => if j = (nI 3).toNatClampNeg then aD 25 else FR3 j
def G55_ : AH := hset G54_ 18 (oR 8 FR4)
def G56_ : AH := hpush G55_ (oO 8 [aN, aI 0])
def G57_ : AH := hpush G56_ (oI 0 300 (fun _ => 0))
def G58_ : AH := hset G57_ 27 (oO 8 [aD 28, aI 0])
def FR5 : Nat → AV := fun j => if j = (nI 4).toNatClampNeg then aD 27 else FR4 j
def G59_ : AH := hset G58_ 18 (oR 8 FR5)
def G60_ : AH := hpush G59_ (oO 8 [aN, aI 0])
def G61_ : AH := hpush G60_ (oI 0 300 (fun _ => 0))
def G62_ : AH := hset G61_ 29 (oO 8 [aD 30, aI 0])
def FR6 : Nat → AV := fun j => if j = (nI 5).toNatClampNeg then aD 29 else FR5 j
def G63_ : AH := hset G62_ 18 (oR 8 FR6)
def G64_ : AH := hpush G63_ (oO 8 [aN, aI 0])
def G65_ : AH := hpush G64_ (oI 0 300 (fun _ => 0))
def G66_ : AH := hset G65_ 31 (oO 8 [aD 32, aI 0])
def FR7 : Nat → AV := fun j => if j = (nI 6).toNatClampNeg then aD 31 else FR6 j
def G67_ : AH := hset G66_ 18 (oR 8 FR7)
def G68_ : AH := hpush G67_ (oO 8 [aN, aI 0])
def G69_ : AH := hpush G68_ (oI 0 300 (fun _ => 0))
def G70_ : AH := hset G69_ 33 (oO 8 [aD 34, aI 0])
def FR8 : Nat → AV := fun j => if j = (nI 7).toNatClampNeg then aD 33 else FR7 j
def G71_ : AH := hset G70_ 18 (oR 8 FR8)
def G72_ : AH := hset G71_ 0 (oO 11 [aD 1, aD 5, aD 7, aD 9, aD 11, aD 16, aD 17, aN, aN, aN, aN, aN, aI 0, aN, aN, aN, aI 0])
def G73_ : AH := hpush G72_ (oI 0 24 (fun _ => 0))
def G74_ : AH := hset G73_ 0 (oO 11 [aD 1, aD 5, aD 7, aD 9, aD 11, aD 16, aD 17, aD 35, aN, aN, aN, aN, aI 0, aN, aN, aN, aI 0])
def G75_ : AH := hpush G74_ (oI 0 24 (fun _ => 0))
def G76_ : AH := hset G75_ 0 (oO 11 [aD 1, aD 5, aD 7, aD 9, aD 11, aD 16, aD 17, aD 35, aD 36, aN, aN, aN, aI 0, aN, aN, aN, aI 0])
def G77_ : AH := hpush G76_ (oO 7 [aN, aN, aI 0, aI 0])
def G78_ : AH := hpush G77_ (oI 0 24 (fun _ => 0))
def G79_ : AH := hset G78_ 37 (oO 7 [aD 38, aN, aI 0, aI 0])
def G80_ : AH := hpush G79_ (oI 0 2000 (fun _ => 0))
def G81_ : AH := hset G80_ 37 (oO 7 [aD 38, aD 39, aI 0, aI 0])
def G82_ : AH := hset G81_ 0 (oO 11 [aD 1, aD 5, aD 7, aD 9, aD 11, aD 16, aD 17, aD 35, aD 36, aD 37, aN, aN, aI 0, aN, aN, aN, aI 0])
def G83_ : AH := hpush G82_ (oO 7 [aN, aN, aI 0, aI 0])
def G84_ : AH := hpush G83_ (oI 0 24 (fun _ => 0))
def G85_ : AH := hset G84_ 40 (oO 7 [aD 41, aN, aI 0, aI 0])
def G86_ : AH := hpush G85_ (oI 0 2000 (fun _ => 0))
def G87_ : AH := hset G86_ 40 (oO 7 [aD 41, aD 42, aI 0, aI 0])
def G88_ : AH := hset G87_ 0 (oO 11 [aD 1, aD 5, aD 7, aD 9, aD 11, aD 16, aD 17, aD 35, aD 36, aD 37, aD 40, aN, aI 0, aN, aN, aN, aI 0])
def G89_ : AH := hpush G88_ (oO 7 [aN, aN, aI 0, aI 0])
def G90_ : AH := hpush G89_ (oI 0 24 (fun _ => 0))
def G91_ : AH := hset G90_ 43 (oO 7 [aD 44, aN, aI 0, aI 0])
def G92_ : AH := hpush G91_ (oI 0 300 (fun _ => 0))
def G93_ : AH := hset G92_ 43 (oO 7 [aD 44, aD 45, aI 0, aI 0])
def G94_ : AH := hset G93_ 0 (oO 11 [aD 1, aD 5, aD 7, aD 9, aD 11, aD 16, aD 17, aD 35, aD 36, aD 37, aD 40, aD 43, aI 0, aN, aN, aN, aI 0])
def G95_ : AH := hpush G94_ (oO 8 [aN, aI 0])
def G96_ : AH := hpush G95_ (oI 0 150 (fun _ => 0))
def G97_ : AH := hset G96_ 46 (oO 8 [aD 47, aI 0])
def G98_ : AH := hset G97_ 0 (oO 11 [aD 1, aD 5, aD 7, aD 9, aD 11, aD 16, aD 17, aD 35, aD 36, aD 37, aD 40, aD 43, aI 0, aD 46, aN, aN, aI 0])
def G99_ : AH := hpush G98_ (oO 8 [aN, aI 0])
def G100_ : AH := hpush G99_ (oI 0 300 (fun _ => 0))
def G101_ : AH := hset G100_ 48 (oO 8 [aD 49, aI 0])
def G102_ : AH := hset G101_ 0 (oO 11 [aD 1, aD 5, aD 7, aD 9, aD 11, aD 16, aD 17, aD 35, aD 36, aD 37, aD 40, aD 43, aI 0, aD 46, aD 48, aN, aI 0])
def G103_ : AH := hpush G102_ (oI 0 24 (fun _ => 0))
def G104_ : AH := hset G103_ 0 (oO 11 [aD 1, aD 5, aD 7, aD 9, aD 11, aD 16, aD 17, aD 35, aD 36, aD 37, aD 40, aD 43, aI 0, aD 46, aD 48, aD 50, aI 0])
def G105_ : AH := hpush G104_ (oO 12 [aI 0, aN, aI 0, aN, aN, aI 0, aN, aI 0, aI 0, aI 0, aI 0, aN, aI 0, aN, aN, aN, aI 0, aN, aN, aN, aI 0, aI 0, aI 0, aN, aN, aI 0, aN, aI 0, aN, aN, aI 0, aN, aI 0, aN, aN])
def G106_ : AH := hpush G105_ (oI 0 120 (fun _ => 0))
def G107_ : AH := hset G106_ 51 (oO 12 [aI 0, aD 52, aI 0, aN, aN, aI 0, aN, aI 0, aI 0, aI 0, aI 0, aN, aI 0, aN, aN, aN, aI 0, aN, aN, aN, aI 0, aI 0, aI 0, aN, aN, aI 0, aN, aI 0, aN, aN, aI 0, aN, aI 0, aN, aN])
def G108_ : AH := hpush G107_ (oI 0 301 (fun _ => 0))
def G109_ : AH := hset G108_ 51 (oO 12 [aI 0, aD 52, aI 0, aD 53, aN, aI 0, aN, aI 0, aI 0, aI 0, aI 0, aN, aI 0, aN, aN, aN, aI 0, aN, aN, aN, aI 0, aI 0, aI 0, aN, aN, aI 0, aN, aI 0, aN, aN, aI 0, aN, aI 0, aN, aN])
def G110_ : AH := hpush G109_ (oI 0 2408 (fun _ => 0))
def G111_ : AH := hset G110_ 51 (oO 12 [aI 0, aD 52, aI 0, aD 53, aD 54, aI 0, aN, aI 0, aI 0, aI 0, aI 0, aN, aI 0, aN, aN, aN, aI 0, aN, aN, aN, aI 0, aI 0, aI 0, aN, aN, aI 0, aN, aI 0, aN, aN, aI 0, aN, aI 0, aN, aN])
def G112_ : AH := hpush G111_ (oI 1 120 (fun _ => 0))
def G113_ : AH := hset G112_ 51 (oO 12 [aI 0, aD 52, aI 0, aD 53, aD 54, aI 0, aD 55, aI 0, aI 0, aI 0, aI 0, aN, aI 0, aN, aN, aN, aI 0, aN, aN, aN, aI 0, aI 0, aI 0, aN, aN, aI 0, aN, aI 0, aN, aN, aI 0, aN, aI 0, aN, aN])
def G114_ : AH := hpush G113_ (oI 0 244 (fun _ => 0))
def G115_ : AH := hset G114_ 51 (oO 12 [aI 0, aD 52, aI 0, aD 53, aD 54, aI 0, aD 55, aI 0, aI 0, aI 0, aI 0, aD 56, aI 0, aN, aN, aN, aI 0, aN, aN, aN, aI 0, aI 0, aI 0, aN, aN, aI 0, aN, aI 0, aN, aN, aI 0, aN, aI 0, aN, aN])
def G116_ : AH := hpush G115_ (oI 3 62 (fun _ => 0))
def G117_ : AH := hset G116_ 51 (oO 12 [aI 0, aD 52, aI 0, aD 53, aD 54, aI 0, aD 55, aI 0, aI 0, aI 0, aI 0, aD 56, aI 0, aD 57, aN, aN, aI 0, aN, aN, aN, aI 0, aI 0, aI 0, aN, aN, aI 0, aN, aI 0, aN, aN, aI 0, aN, aI 0, aN, aN])
def G118_ : AH := hpush G117_ (oI 0 62 (fun _ => 0))
def G119_ : AH := hset G118_ 51 (oO 12 [aI 0, aD 52, aI 0, aD 53, aD 54, aI 0, aD 55, aI 0, aI 0, aI 0, aI 0, aD 56, aI 0, aD 57, aD 58, aN, aI 0, aN, aN, aN, aI 0, aI 0, aI 0, aN, aN, aI 0, aN, aI 0, aN, aN, aI 0, aN, aI 0, aN, aN])
def G120_ : AH := hpush G119_ (oI 1 1200 (fun _ => 0))
def G121_ : AH := hset G120_ 51 (oO 12 [aI 0, aD 52, aI 0, aD 53, aD 54, aI 0, aD 55, aI 0, aI 0, aI 0, aI 0, aD 56, aI 0, aD 57, aD 58, aD 59, aI 0, aN, aN, aN, aI 0, aI 0, aI 0, aN, aN, aI 0, aN, aI 0, aN, aN, aI 0, aN, aI 0, aN, aN])
def G122_ : AH := hpush G121_ (oI 0 24 (fun _ => 0))
def G123_ : AH := hset G122_ 51 (oO 12 [aI 0, aD 52, aI 0, aD 53, aD 54, aI 0, aD 55, aI 0, aI 0, aI 0, aI 0, aD 56, aI 0, aD 57, aD 58, aD 59, aI 0, aD 60, aN, aN, aI 0, aI 0, aI 0, aN, aN, aI 0, aN, aI 0, aN, aN, aI 0, aN, aI 0, aN, aN])
def G124_ : AH := hpush G123_ (oI 0 24 (fun _ => 0))
def G125_ : AH := hset G124_ 51 (oO 12 [aI 0, aD 52, aI 0, aD 53, aD 54, aI 0, aD 55, aI 0, aI 0, aI 0, aI 0, aD 56, aI 0, aD 57, aD 58, aD 59, aI 0, aD 60, aD 61, aN, aI 0, aI 0, aI 0, aN, aN, aI 0, aN, aI 0, aN, aN, aI 0, aN, aI 0, aN, aN])
def G126_ : AH := hpush G125_ (oI 0 2000 (fun _ => 0))
def G127_ : AH := hset G126_ 51 (oO 12 [aI 0, aD 52, aI 0, aD 53, aD 54, aI 0, aD 55, aI 0, aI 0, aI 0, aI 0, aD 56, aI 0, aD 57, aD 58, aD 59, aI 0, aD 60, aD 61, aD 62, aI 0, aI 0, aI 0, aN, aN, aI 0, aN, aI 0, aN, aN, aI 0, aN, aI 0, aN, aN])
def G128_ : AH := hpush G127_ (oI 0 24 (fun _ => 0))
def G129_ : AH := hset G128_ 51 (oO 12 [aI 0, aD 52, aI 0, aD 53, aD 54, aI 0, aD 55, aI 0, aI 0, aI 0, aI 0, aD 56, aI 0, aD 57, aD 58, aD 59, aI 0, aD 60, aD 61, aD 62, aI 0, aI 0, aI 0, aD 63, aN, aI 0, aN, aI 0, aN, aN, aI 0, aN, aI 0, aN, aN])
def G130_ : AH := hpush G129_ (oI 0 2000 (fun _ => 0))
def G131_ : AH := hset G130_ 51 (oO 12 [aI 0, aD 52, aI 0, aD 53, aD 54, aI 0, aD 55, aI 0, aI 0, aI 0, aI 0, aD 56, aI 0, aD 57, aD 58, aD 59, aI 0, aD 60, aD 61, aD 62, aI 0, aI 0, aI 0, aD 63, aD 64, aI 0, aN, aI 0, aN, aN, aI 0, aN, aI 0, aN, aN])
def G132_ : AH := hpush G131_ (oI 0 24 (fun _ => 0))
def G133_ : AH := hset G132_ 51 (oO 12 [aI 0, aD 52, aI 0, aD 53, aD 54, aI 0, aD 55, aI 0, aI 0, aI 0, aI 0, aD 56, aI 0, aD 57, aD 58, aD 59, aI 0, aD 60, aD 61, aD 62, aI 0, aI 0, aI 0, aD 63, aD 64, aI 0, aD 65, aI 0, aN, aN, aI 0, aN, aI 0, aN, aN])
def G134_ : AH := hpush G133_ (oI 0 16 (fun _ => 0))
def G135_ : AH := hset G134_ 51 (oO 12 [aI 0, aD 52, aI 0, aD 53, aD 54, aI 0, aD 55, aI 0, aI 0, aI 0, aI 0, aD 56, aI 0, aD 57, aD 58, aD 59, aI 0, aD 60, aD 61, aD 62, aI 0, aI 0, aI 0, aD 63, aD 64, aI 0, aD 65, aI 0, aD 66, aN, aI 0, aN, aI 0, aN, aN])
def G136_ : AH := hpush G135_ (oI 0 2000 (fun _ => 0))
def G137_ : AH := hset G136_ 51 (oO 12 [aI 0, aD 52, aI 0, aD 53, aD 54, aI 0, aD 55, aI 0, aI 0, aI 0, aI 0, aD 56, aI 0, aD 57, aD 58, aD 59, aI 0, aD 60, aD 61, aD 62, aI 0, aI 0, aI 0, aD 63, aD 64, aI 0, aD 65, aI 0, aD 66, aD 67, aI 0, aN, aI 0, aN, aN])
def G138_ : AH := hpush G137_ (oI 0 120 (fun _ => 0))
def G139_ : AH := hset G138_ 51 (oO 12 [aI 0, aD 52, aI 0, aD 53, aD 54, aI 0, aD 55, aI 0, aI 0, aI 0, aI 0, aD 56, aI 0, aD 57, aD 58, aD 59, aI 0, aD 60, aD 61, aD 62, aI 0, aI 0, aI 0, aD 63, aD 64, aI 0, aD 65, aI 0, aD 66, aD 67, aI 0, aD 68, aI 0, aN, aN])
def G140_ : AH := hpush G139_ (oI 0 301 (fun _ => 0))
def G141_ : AH := hset G140_ 51 (oO 12 [aI 0, aD 52, aI 0, aD 53, aD 54, aI 0, aD 55, aI 0, aI 0, aI 0, aI 0, aD 56, aI 0, aD 57, aD 58, aD 59, aI 0, aD 60, aD 61, aD 62, aI 0, aI 0, aI 0, aD 63, aD 64, aI 0, aD 65, aI 0, aD 66, aD 67, aI 0, aD 68, aI 0, aD 69, aN])
def G142_ : AH := hpush G141_ (oI 0 24 (fun _ => 0))
def G143_ : AH := hset G142_ 51 (oO 12 [aI 0, aD 52, aI 0, aD 53, aD 54, aI 0, aD 55, aI 0, aI 0, aI 0, aI 0, aD 56, aI 0, aD 57, aD 58, aD 59, aI 0, aD 60, aD 61, aD 62, aI 0, aI 0, aI 0, aD 63, aD 64, aI 0, aD 65, aI 0, aD 66, aD 67, aI 0, aD 68, aI 0, aD 69, aD 70])
def G144_ : AH := hpush G143_ (oL 1 (fun _ => 0))
def G145_ : AH := hpush G144_ (oE 1 (fun _ => 0))
theorem cl_8 : (nI 8).toNatClampNeg = 8 := by decide
theorem cb_8 (r : Option Res) : bI (¬ (nI 8 < 0 ∨ 67108864 < 8)) r = r := bI_t (by decide) r
theorem cl_16 : (nI 16).toNatClampNeg = 16 := by decide
theorem cb_16 (r : Option Res) : bI (¬ (nI 16 < 0 ∨ 67108864 < 16)) r = r := bI_t (by decide) r
theorem cl_24 : (nI 24).toNatClampNeg = 24 := by decide
theorem cb_24 (r : Option Res) : bI (¬ (nI 24 < 0 ∨ 67108864 < 24)) r = r := bI_t (by decide) r
theorem cl_60 : (nI 60).toNatClampNeg = 60 := by decide
theorem cb_60 (r : Option Res) : bI (¬ (nI 60 < 0 ∨ 67108864 < 60)) r = r := bI_t (by decide) r
theorem cl_61 : (nI 61).toNatClampNeg = 61 := by decide
theorem cb_61 (r : Option Res) : bI (¬ (nI 61 < 0 ∨ 67108864 < 61)) r = r := bI_t (by decide) r
theorem cl_62 : (nI 62).toNatClampNeg = 62 := by decide
theorem cb_62 (r : Option Res) : bI (¬ (nI 62 < 0 ∨ 67108864 < 62)) r = r := bI_t (by decide) r
theorem cl_120 : (nI 120).toNatClampNeg = 120 := by decide
theorem cb_120 (r : Option Res) : bI (¬ (nI 120 < 0 ∨ 67108864 < 120)) r = r := bI_t (by decide) r
theorem cl_150 : (nI 150).toNatClampNeg = 150 := by decide
theorem cb_150 (r : Option Res) : bI (¬ (nI 150 < 0 ∨ 67108864 < 150)) r = r := bI_t (by decide) r
theorem cl_244 : (nI 244).toNatClampNeg = 244 := by decide
theorem cb_244 (r : Option Res) : bI (¬ (nI 244 < 0 ∨ 67108864 < 244)) r = r := bI_t (by decide) r
theorem cl_300 : (nI 300).toNatClampNeg = 300 := by decide
theorem cb_300 (r : Option Res) : bI (¬ (nI 300 < 0 ∨ 67108864 < 300)) r = r := bI_t (by decide) r
theorem cl_301 : (nI 301).toNatClampNeg = 301 := by decide
theorem cb_301 (r : Option Res) : bI (¬ (nI 301 < 0 ∨ 67108864 < 301)) r = r := bI_t (by decide) r
theorem cl_840 : (nI 840).toNatClampNeg = 840 := by decide
theorem cb_840 (r : Option Res) : bI (¬ (nI 840 < 0 ∨ 67108864 < 840)) r = r := bI_t (by decide) r
theorem cl_1200 : (nI 1200).toNatClampNeg = 1200 := by decide
theorem cb_1200 (r : Option Res) : bI (¬ (nI 1200 < 0 ∨ 67108864 < 1200)) r = r := bI_t (by decide) r
theorem cl_2000 : (nI 2000).toNatClampNeg = 2000 := by decide
theorem cb_2000 (r : Option Res) : bI (¬ (nI 2000 < 0 ∨ 67108864 < 2000)) r = r := bI_t (by decide) r
theorem cl_2408 : (nI 2408).toNatClampNeg = 2408 := by decide
theorem cb_2408 (r : Option Res) : bI (¬ (nI 2408 < 0 ∨ 67108864 < 2408)) r = r := bI_t (by decide) r
theorem gl0 : G0_.1.length = 0 := by rfl
theorem gf1 : hpush G0_ (oO 11 [aN, aN, aN, aN, aN, aN, aN, aN, aN, aN, aN, aN, aI 0, aN, aN, aN, aI 0]) = G1_ := by rfl
theorem gf2 : G1_.1.length = 1 := by rfl
theorem gf3 : hpush G1_ (oO 9 [aN, aI 0, aI 0, aI 0, aN]) = G2_ := by rfl
theorem gf4 : G2_.1.length = 2 := by rfl
theorem gf5 : hpush G2_ (oI 1 120 (fun _ => 0)) = G3_ := by rfl
theorem gf6 : G3_.1.length = 3 := by rfl
theorem gf7 : putF G3_ 1 9 0 3 (aD 2) = some G4_ := by rfl
theorem gf8 : G4_.1.length = 3 := by rfl
theorem gf9 : hpush G4_ (oO 8 [aN, aI 0]) = G5_ := by rfl
theorem gf10 : G5_.1.length = 4 := by rfl
theorem gf11 : hpush G5_ (oI 0 150 (fun _ => 0)) = G6_ := by rfl
theorem gf12 : G6_.1.length = 5 := by rfl
theorem gf13 : putF G6_ 3 8 0 3 (aD 4) = some G7_ := by rfl
theorem gf14 : G7_.1.length = 5 := by rfl
theorem gc0 (sc : SC) : Call sc n_X6_init [aD 3, aI (nI 30)] G5_ = some (.inl none, G7_) := by
  rw [c0_X6_init, e_X6_init_0, show nI 30 * nI 5 = nI 150 by decide, cl_150, cb_150, gf10, gf11, e_X6_init_10, gf13, bO_some, e_X6_init_13]
theorem gf15 : putF G7_ 1 9 4 3 (aD 3) = some G8_ := by rfl
theorem gf16 : G8_.1.length = 5 := by rfl
theorem gc1 (sc : SC) : Call sc n_X7_init [aD 1] G2_ = some (.inl none, G8_) := by
  rw [c0_X7_init, e_X7_init_0, cl_120, cb_120, gf4, gf5, e_X7_init_9, gf7, bO_some, e_X7_init_12, gf8, gf9, gc0, bC_v, tl0, e_X7_init_22, gf15, bO_some, e_X7_init_25]
theorem gf17 : putF G8_ 0 11 0 3 (aD 1) = some G9_ := by rfl
theorem gf18 : G9_.1.length = 5 := by rfl
theorem gf19 : hpush G9_ (oO 10 [aN, aI 0]) = G10_ := by rfl
theorem gf20 : G10_.1.length = 6 := by rfl
theorem gf21 : hpush G10_ (oI 1 840 (fun _ => 0)) = G11_ := by rfl
theorem gf22 : G11_.1.length = 7 := by rfl
theorem gf23 : putF G11_ 5 10 0 3 (aD 6) = some G12_ := by rfl
theorem gf24 : G12_.1.length = 7 := by rfl
theorem gc2 (sc : SC) : Call sc n_X8_init [aD 5] G10_ = some (.inl none, G12_) := by
  rw [c0_X8_init, e_X8_init_0, cl_840, cb_840, gf20, gf21, e_X8_init_10, gf23, bO_some, e_X8_init_13]
theorem gf25 : putF G12_ 0 11 1 3 (aD 5) = some G13_ := by rfl
theorem gf26 : G13_.1.length = 7 := by rfl
theorem gf27 : hpush G13_ (oO 8 [aN, aI 0]) = G14_ := by rfl
theorem gf28 : G14_.1.length = 8 := by rfl
theorem gf29 : hpush G14_ (oI 0 150 (fun _ => 0)) = G15_ := by rfl
theorem gf30 : G15_.1.length = 9 := by rfl
theorem gf31 : putF G15_ 7 8 0 3 (aD 8) = some G16_ := by rfl
theorem gf32 : G16_.1.length = 9 := by rfl
theorem gc3 (sc : SC) : Call sc n_X6_init [aD 7, aI (nI 30)] G14_ = some (.inl none, G16_) := by
  rw [c0_X6_init, e_X6_init_0, show nI 30 * nI 5 = nI 150 by decide, cl_150, cb_150, gf28, gf29, e_X6_init_10, gf31, bO_some, e_X6_init_13]
theorem gf33 : putF G16_ 0 11 2 3 (aD 7) = some G17_ := by rfl
theorem gf34 : G17_.1.length = 9 := by rfl
theorem gf35 : hpush G17_ (oO 8 [aN, aI 0]) = G18_ := by rfl
theorem gf36 : G18_.1.length = 10 := by rfl
theorem gf37 : hpush G18_ (oI 0 300 (fun _ => 0)) = G19_ := by rfl
theorem gf38 : G19_.1.length = 11 := by rfl
theorem gf39 : putF G19_ 9 8 0 3 (aD 10) = some G20_ := by rfl
theorem gf40 : G20_.1.length = 11 := by rfl
theorem gc4 (sc : SC) : Call sc n_X6_init [aD 9, aI (nI 60)] G18_ = some (.inl none, G20_) := by
  rw [c0_X6_init, e_X6_init_0, show nI 60 * nI 5 = nI 300 by decide, cl_300, cb_300, gf36, gf37, e_X6_init_10, gf39, bO_some, e_X6_init_13]
theorem gf41 : putF G20_ 0 11 3 3 (aD 9) = some G21_ := by rfl
theorem gf42 : G21_.1.length = 11 := by rfl
theorem gf43 : hpush G21_ (oO 5 [aN, aN, aN, aN, aN]) = G22_ := by rfl
theorem gf44 : G22_.1.length = 12 := by rfl
theorem gf45 (sc : SC) : getF sc G22_ (aD 0) 11 3 = some (aD 9) := by rfl
theorem gf46 : hpush G22_ (oI 0 61 (fun _ => 0)) = G23_ := by rfl
theorem gf47 : G23_.1.length = 13 := by rfl
theorem gf48 : putF G23_ 11 5 1 3 (aD 12) = some G24_ := by rfl
theorem gf49 : G24_.1.length = 13 := by rfl
theorem gf50 : hpush G24_ (oI 0 60 (fun _ => 0)) = G25_ := by rfl
theorem gf51 : G25_.1.length = 14 := by rfl
theorem gf52 : putF G25_ 11 5 2 3 (aD 13) = some G26_ := by rfl
theorem gf53 : G26_.1.length = 14 := by rfl
theorem gf54 : hpush G26_ (oI 0 60 (fun _ => 0)) = G27_ := by rfl
theorem gf55 : G27_.1.length = 15 := by rfl
theorem gf56 : putF G27_ 11 5 3 3 (aD 14) = some G28_ := by rfl
theorem gf57 : G28_.1.length = 15 := by rfl
theorem gf58 : hpush G28_ (oI 3 61 (fun _ => 0)) = G29_ := by rfl
theorem gf59 : G29_.1.length = 16 := by rfl
theorem gf60 : putF G29_ 11 5 4 3 (aD 15) = some G30_ := by rfl
theorem gf61 : G30_.1.length = 16 := by rfl
theorem gf62 : putF G30_ 11 5 0 3 (aD 9) = some G31_ := by rfl
theorem gf63 : G31_.1.length = 16 := by rfl
theorem gc5 (sc : SC) : Call sc n_X2_init [aD 11, aD 9] G22_ = some (.inl none, G31_) := by
  rw [c0_X2_init, e_X2_init_0, cl_61, cb_61, gf44, gf46, e_X2_init_9, gf48, bO_some, e_X2_init_12, cl_60, cb_60, gf49, gf50, e_X2_init_17, gf52, bO_some, e_X2_init_20, cl_60, cb_60, gf53, gf54, e_X2_init_25, gf56, bO_some, e_X2_init_28, cl_61, cb_61, gf57, gf58, e_X2_init_33, gf60, bO_some, e_X2_init_36, gf62, bO_some, e_X2_init_41]
theorem gf64 : putF G31_ 0 11 4 3 (aD 11) = some G32_ := by rfl
theorem gf65 : G32_.1.length = 16 := by rfl
theorem gf66 : hpush G32_ (oO 4 [aN, aN]) = G33_ := by rfl
theorem gf67 : G33_.1.length = 17 := by rfl
theorem gf68 (sc : SC) : getF sc G33_ (aD 0) 11 3 = some (aD 9) := by rfl
theorem gf69 (sc : SC) : getF sc G33_ (aD 0) 11 4 = some (aD 11) := by rfl
theorem gf70 : putF G33_ 16 4 0 3 (aD 9) = some G34_ := by rfl
theorem gf71 : G34_.1.length = 17 := by rfl
theorem gf72 : putF G34_ 16 4 1 3 (aD 11) = some G35_ := by rfl
theorem gf73 : G35_.1.length = 17 := by rfl
theorem gc6 (sc : SC) : Call sc n_X1_init [aD 16, aD 9, aD 11] G33_ = some (.inl none, G35_) := by
  rw [c0_X1_init, e_X1_init_0, gf70, bO_some, e_X1_init_9, gf72, bO_some, e_X1_init_14]
theorem gf74 : putF G35_ 0 11 5 3 (aD 16) = some G36_ := by rfl
theorem gf75 : G36_.1.length = 17 := by rfl
theorem gf76 : hpush G36_ (oO 6 [aN, aI 0, aI 0]) = G37_ := by rfl
theorem gf77 : G37_.1.length = 18 := by rfl
theorem gf78 : hpush G37_ (oR 8 (fun _ => aN)) = G38_ := by rfl
theorem gf79 : G38_.1.length = 19 := by rfl
theorem gf80 : putF G38_ 17 6 0 3 (aD 18) = some G39_ := by rfl
theorem gf81 : G39_.1.length = 19 := by rfl
theorem gf82 (sc : SC) : getF sc G39_ (aD 17) 6 0 = some (aD 18) := by rfl
theorem gf83 (sc : SC) : lenA sc G39_ (aD 18) = some 8 := by rfl
theorem gf84 (sc : SC) : getF sc G39_ (aD 17) 6 0 = some (aD 18) := by rfl
theorem gf85 : hpush G39_ (oO 8 [aN, aI 0]) = G40_ := by rfl
theorem gf86 : G40_.1.length = 20 := by rfl
theorem gf87 : hpush G40_ (oI 0 300 (fun _ => 0)) = G41_ := by rfl
theorem gf88 : G41_.1.length = 21 := by rfl
theorem gf89 : putF G41_ 19 8 0 3 (aD 20) = some G42_ := by rfl
theorem gf90 : G42_.1.length = 21 := by rfl
theorem gc7 (sc : SC) : Call sc n_X6_init [aD 19, aI (nI 60)] G40_ = some (.inl none, G42_) := by
  rw [c0_X6_init, e_X6_init_0, show nI 60 * nI 5 = nI 300 by decide, cl_300, cb_300, gf86, gf87, e_X6_init_10, gf89, bO_some, e_X6_init_13]
theorem gf91 : stR G42_ 18 (nI 0) (aD 19) = some G43_ := by rfl
theorem gf92 : G43_.1.length = 21 := by rfl
theorem gf93 (sc : SC) : getF sc G43_ (aD 17) 6 0 = some (aD 18) := by rfl
theorem gf94 (sc : SC) : lenA sc G43_ (aD 18) = some 8 := by rfl
theorem gf95 (sc : SC) : getF sc G43_ (aD 17) 6 0 = some (aD 18) := by rfl
theorem gf96 : hpush G43_ (oO 8 [aN, aI 0]) = G44_ := by rfl
theorem gf97 : G44_.1.length = 22 := by rfl
theorem gf98 : hpush G44_ (oI 0 300 (fun _ => 0)) = G45_ := by rfl
theorem gf99 : G45_.1.length = 23 := by rfl
theorem gf100 : putF G45_ 21 8 0 3 (aD 22) = some G46_ := by rfl
theorem gf101 : G46_.1.length = 23 := by rfl
theorem gc8 (sc : SC) : Call sc n_X6_init [aD 21, aI (nI 60)] G44_ = some (.inl none, G46_) := by
  rw [c0_X6_init, e_X6_init_0, show nI 60 * nI 5 = nI 300 by decide, cl_300, cb_300, gf97, gf98, e_X6_init_10, gf100, bO_some, e_X6_init_13]
theorem gf102 : stR G46_ 18 (nI 1) (aD 21) = some G47_ := by rfl
theorem gf103 : G47_.1.length = 23 := by rfl
theorem gf104 (sc : SC) : getF sc G47_ (aD 17) 6 0 = some (aD 18) := by rfl
theorem gf105 (sc : SC) : lenA sc G47_ (aD 18) = some 8 := by rfl
theorem gf106 (sc : SC) : getF sc G47_ (aD 17) 6 0 = some (aD 18) := by rfl
theorem gf107 : hpush G47_ (oO 8 [aN, aI 0]) = G48_ := by rfl
theorem gf108 : G48_.1.length = 24 := by rfl
theorem gf109 : hpush G48_ (oI 0 300 (fun _ => 0)) = G49_ := by rfl
theorem gf110 : G49_.1.length = 25 := by rfl
theorem gf111 : putF G49_ 23 8 0 3 (aD 24) = some G50_ := by rfl
theorem gf112 : G50_.1.length = 25 := by rfl
theorem gc9 (sc : SC) : Call sc n_X6_init [aD 23, aI (nI 60)] G48_ = some (.inl none, G50_) := by
  rw [c0_X6_init, e_X6_init_0, show nI 60 * nI 5 = nI 300 by decide, cl_300, cb_300, gf108, gf109, e_X6_init_10, gf111, bO_some, e_X6_init_13]
theorem gf113 : stR G50_ 18 (nI 2) (aD 23) = some G51_ := by rfl
theorem gf114 : G51_.1.length = 25 := by rfl
theorem gf115 (sc : SC) : getF sc G51_ (aD 17) 6 0 = some (aD 18) := by rfl
theorem gf116 (sc : SC) : lenA sc G51_ (aD 18) = some 8 := by rfl
theorem gf117 (sc : SC) : getF sc G51_ (aD 17) 6 0 = some (aD 18) := by rfl
theorem gf118 : hpush G51_ (oO 8 [aN, aI 0]) = G52_ := by rfl
theorem gf119 : G52_.1.length = 26 := by rfl
theorem gf120 : hpush G52_ (oI 0 300 (fun _ => 0)) = G53_ := by rfl
theorem gf121 : G53_.1.length = 27 := by rfl
theorem gf122 : putF G53_ 25 8 0 3 (aD 26) = some G54_ := by rfl
theorem gf123 : G54_.1.length = 27 := by rfl
theorem gc10 (sc : SC) : Call sc n_X6_init [aD 25, aI (nI 60)] G52_ = some (.inl none, G54_) := by
  rw [c0_X6_init, e_X6_init_0, show nI 60 * nI 5 = nI 300 by decide, cl_300, cb_300, gf119, gf120, e_X6_init_10, gf122, bO_some, e_X6_init_13]
theorem gf124 : stR G54_ 18 (nI 3) (aD 25) = some G55_ := by rfl
theorem gf125 : G55_.1.length = 27 := by rfl
theorem gf126 (sc : SC) : getF sc G55_ (aD 17) 6 0 = some (aD 18) := by rfl
theorem gf127 (sc : SC) : lenA sc G55_ (aD 18) = some 8 := by rfl
theorem gf128 (sc : SC) : getF sc G55_ (aD 17) 6 0 = some (aD 18) := by rfl
theorem gf129 : hpush G55_ (oO 8 [aN, aI 0]) = G56_ := by rfl
theorem gf130 : G56_.1.length = 28 := by rfl
theorem gf131 : hpush G56_ (oI 0 300 (fun _ => 0)) = G57_ := by rfl
theorem gf132 : G57_.1.length = 29 := by rfl
theorem gf133 : putF G57_ 27 8 0 3 (aD 28) = some G58_ := by rfl
theorem gf134 : G58_.1.length = 29 := by rfl
theorem gc11 (sc : SC) : Call sc n_X6_init [aD 27, aI (nI 60)] G56_ = some (.inl none, G58_) := by
  rw [c0_X6_init, e_X6_init_0, show nI 60 * nI 5 = nI 300 by decide, cl_300, cb_300, gf130, gf131, e_X6_init_10, gf133, bO_some, e_X6_init_13]
theorem gf135 : stR G58_ 18 (nI 4) (aD 27) = some G59_ := by rfl
theorem gf136 : G59_.1.length = 29 := by rfl
theorem gf137 (sc : SC) : getF sc G59_ (aD 17) 6 0 = some (aD 18) := by rfl
theorem gf138 (sc : SC) : lenA sc G59_ (aD 18) = some 8 := by rfl
theorem gf139 (sc : SC) : getF sc G59_ (aD 17) 6 0 = some (aD 18) := by rfl
theorem gf140 : hpush G59_ (oO 8 [aN, aI 0]) = G60_ := by rfl
theorem gf141 : G60_.1.length = 30 := by rfl
theorem gf142 : hpush G60_ (oI 0 300 (fun _ => 0)) = G61_ := by rfl
theorem gf143 : G61_.1.length = 31 := by rfl
theorem gf144 : putF G61_ 29 8 0 3 (aD 30) = some G62_ := by rfl
theorem gf145 : G62_.1.length = 31 := by rfl
theorem gc12 (sc : SC) : Call sc n_X6_init [aD 29, aI (nI 60)] G60_ = some (.inl none, G62_) := by
  rw [c0_X6_init, e_X6_init_0, show nI 60 * nI 5 = nI 300 by decide, cl_300, cb_300, gf141, gf142, e_X6_init_10, gf144, bO_some, e_X6_init_13]
theorem gf146 : stR G62_ 18 (nI 5) (aD 29) = some G63_ := by rfl
theorem gf147 : G63_.1.length = 31 := by rfl
theorem gf148 (sc : SC) : getF sc G63_ (aD 17) 6 0 = some (aD 18) := by rfl
theorem gf149 (sc : SC) : lenA sc G63_ (aD 18) = some 8 := by rfl
theorem gf150 (sc : SC) : getF sc G63_ (aD 17) 6 0 = some (aD 18) := by rfl
theorem gf151 : hpush G63_ (oO 8 [aN, aI 0]) = G64_ := by rfl
theorem gf152 : G64_.1.length = 32 := by rfl
theorem gf153 : hpush G64_ (oI 0 300 (fun _ => 0)) = G65_ := by rfl
theorem gf154 : G65_.1.length = 33 := by rfl
theorem gf155 : putF G65_ 31 8 0 3 (aD 32) = some G66_ := by rfl
theorem gf156 : G66_.1.length = 33 := by rfl
theorem gc13 (sc : SC) : Call sc n_X6_init [aD 31, aI (nI 60)] G64_ = some (.inl none, G66_) := by
  rw [c0_X6_init, e_X6_init_0, show nI 60 * nI 5 = nI 300 by decide, cl_300, cb_300, gf152, gf153, e_X6_init_10, gf155, bO_some, e_X6_init_13]
theorem gf157 : stR G66_ 18 (nI 6) (aD 31) = some G67_ := by rfl
theorem gf158 : G67_.1.length = 33 := by rfl
theorem gf159 (sc : SC) : getF sc G67_ (aD 17) 6 0 = some (aD 18) := by rfl
theorem gf160 (sc : SC) : lenA sc G67_ (aD 18) = some 8 := by rfl
theorem gf161 (sc : SC) : getF sc G67_ (aD 17) 6 0 = some (aD 18) := by rfl
theorem gf162 : hpush G67_ (oO 8 [aN, aI 0]) = G68_ := by rfl
theorem gf163 : G68_.1.length = 34 := by rfl
theorem gf164 : hpush G68_ (oI 0 300 (fun _ => 0)) = G69_ := by rfl
theorem gf165 : G69_.1.length = 35 := by rfl
theorem gf166 : putF G69_ 33 8 0 3 (aD 34) = some G70_ := by rfl
theorem gf167 : G70_.1.length = 35 := by rfl
theorem gc14 (sc : SC) : Call sc n_X6_init [aD 33, aI (nI 60)] G68_ = some (.inl none, G70_) := by
  rw [c0_X6_init, e_X6_init_0, show nI 60 * nI 5 = nI 300 by decide, cl_300, cb_300, gf163, gf164, e_X6_init_10, gf166, bO_some, e_X6_init_13]
theorem gf168 : stR G70_ 18 (nI 7) (aD 33) = some G71_ := by rfl
theorem gf169 : G71_.1.length = 35 := by rfl
theorem gf170 (sc : SC) : getF sc G71_ (aD 17) 6 0 = some (aD 18) := by rfl
theorem gf171 (sc : SC) : lenA sc G71_ (aD 18) = some 8 := by rfl
theorem gc15 (sc : SC) : Call sc n_X3_init [aD 17] G37_ = some (.inl none, G71_) := by
  rw [c0_X3_init, e_X3_init_0, cl_8, cb_8, gf77, gf78, e_X3_init_10, gf80, bO_some, e_X3_init_13, e_X3_init_15, gf82, bF_D, e_X3_init_20, gf83, bO_some, e_X3_init_21, if_neg (show ¬ nI 8 ≤ nI 0 by decide), e_X3_init_24, gf84, bF_D, e_X3_init_28, gf81, gf85, gc7, bC_v, tl0, e_X3_init_38, gf91, bO_some, e_X3_init_39, show nI 0 + nI 1 = nI 1 by decide, e_X3_init_15, gf93, bF_D, e_X3_init_20, gf94, bO_some, e_X3_init_21, if_neg (show ¬ nI 8 ≤ nI 1 by decide), e_X3_init_24, gf95, bF_D, e_X3_init_28, gf92, gf96, gc8, bC_v, tl0, e_X3_init_38, gf102, bO_some, e_X3_init_39, show nI 1 + nI 1 = nI 2 by decide, e_X3_init_15, gf104, bF_D, e_X3_init_20, gf105, bO_some, e_X3_init_21, if_neg (show ¬ nI 8 ≤ nI 2 by decide), e_X3_init_24, gf106, bF_D, e_X3_init_28, gf103, gf107, gc9, bC_v, tl0, e_X3_init_38, gf113, bO_some, e_X3_init_39, show nI 2 + nI 1 = nI 3 by decide, e_X3_init_15, gf115, bF_D, e_X3_init_20, gf116, bO_some, e_X3_init_21, if_neg (show ¬ nI 8 ≤ nI 3 by decide), e_X3_init_24, gf117, bF_D, e_X3_init_28, gf114, gf118, gc10, bC_v, tl0, e_X3_init_38, gf124, bO_some, e_X3_init_39, show nI 3 + nI 1 = nI 4 by decide, e_X3_init_15, gf126, bF_D, e_X3_init_20, gf127, bO_some, e_X3_init_21, if_neg (show ¬ nI 8 ≤ nI 4 by decide), e_X3_init_24, gf128, bF_D, e_X3_init_28, gf125, gf129, gc11, bC_v, tl0, e_X3_init_38, gf135, bO_some, e_X3_init_39, show nI 4 + nI 1 = nI 5 by decide, e_X3_init_15, gf137, bF_D, e_X3_init_20, gf138, bO_some, e_X3_init_21, if_neg (show ¬ nI 8 ≤ nI 5 by decide), e_X3_init_24, gf139, bF_D, e_X3_init_28, gf136, gf140, gc12, bC_v, tl0, e_X3_init_38, gf146, bO_some, e_X3_init_39, show nI 5 + nI 1 = nI 6 by decide, e_X3_init_15, gf148, bF_D, e_X3_init_20, gf149, bO_some, e_X3_init_21, if_neg (show ¬ nI 8 ≤ nI 6 by decide), e_X3_init_24, gf150, bF_D, e_X3_init_28, gf147, gf151, gc13, bC_v, tl0, e_X3_init_38, gf157, bO_some, e_X3_init_39, show nI 6 + nI 1 = nI 7 by decide, e_X3_init_15, gf159, bF_D, e_X3_init_20, gf160, bO_some, e_X3_init_21, if_neg (show ¬ nI 8 ≤ nI 7 by decide), e_X3_init_24, gf161, bF_D, e_X3_init_28, gf158, gf162, gc14, bC_v, tl0, e_X3_init_38, gf168, bO_some, e_X3_init_39, show nI 7 + nI 1 = nI 8 by decide, e_X3_init_15, gf170, bF_D, e_X3_init_20, gf171, bO_some, e_X3_init_21, if_pos (show nI 8 ≤ nI 8 by decide), e_X3_init_45]
theorem gf172 : putF G71_ 0 11 6 3 (aD 17) = some G72_ := by rfl
theorem gf173 : G72_.1.length = 35 := by rfl
theorem gf174 : hpush G72_ (oI 0 24 (fun _ => 0)) = G73_ := by rfl
theorem gf175 : G73_.1.length = 36 := by rfl
theorem gf176 : putF G73_ 0 11 7 3 (aD 35) = some G74_ := by rfl
theorem gf177 : G74_.1.length = 36 := by rfl
theorem gf178 : hpush G74_ (oI 0 24 (fun _ => 0)) = G75_ := by rfl
theorem gf179 : G75_.1.length = 37 := by rfl
theorem gf180 : putF G75_ 0 11 8 3 (aD 36) = some G76_ := by rfl
theorem gf181 : G76_.1.length = 37 := by rfl
theorem gf182 : hpush G76_ (oO 7 [aN, aN, aI 0, aI 0]) = G77_ := by rfl
theorem gf183 : G77_.1.length = 38 := by rfl
theorem gf184 : hpush G77_ (oI 0 24 (fun _ => 0)) = G78_ := by rfl
theorem gf185 : G78_.1.length = 39 := by rfl
theorem gf186 : putF G78_ 37 7 0 3 (aD 38) = some G79_ := by rfl
theorem gf187 : G79_.1.length = 39 := by rfl
theorem gf188 : hpush G79_ (oI 0 2000 (fun _ => 0)) = G80_ := by rfl
theorem gf189 : G80_.1.length = 40 := by rfl
theorem gf190 : putF G80_ 37 7 1 3 (aD 39) = some G81_ := by rfl
theorem gf191 : G81_.1.length = 40 := by rfl
theorem gc16 (sc : SC) : Call sc n_X5_init [aD 37, aI (nI 2000)] G77_ = some (.inl none, G81_) := by
  rw [c0_X5_init, e_X5_init_0, cl_24, cb_24, gf183, gf184, e_X5_init_9, gf186, bO_some, e_X5_init_12, cl_2000, cb_2000, gf187, gf188, e_X5_init_16, gf190, bO_some, e_X5_init_19]
theorem gf192 : putF G81_ 0 11 9 3 (aD 37) = some G82_ := by rfl
theorem gf193 : G82_.1.length = 40 := by rfl
theorem gf194 : hpush G82_ (oO 7 [aN, aN, aI 0, aI 0]) = G83_ := by rfl
theorem gf195 : G83_.1.length = 41 := by rfl
theorem gf196 : hpush G83_ (oI 0 24 (fun _ => 0)) = G84_ := by rfl
theorem gf197 : G84_.1.length = 42 := by rfl
theorem gf198 : putF G84_ 40 7 0 3 (aD 41) = some G85_ := by rfl
theorem gf199 : G85_.1.length = 42 := by rfl
theorem gf200 : hpush G85_ (oI 0 2000 (fun _ => 0)) = G86_ := by rfl
theorem gf201 : G86_.1.length = 43 := by rfl
theorem gf202 : putF G86_ 40 7 1 3 (aD 42) = some G87_ := by rfl
theorem gf203 : G87_.1.length = 43 := by rfl
theorem gc17 (sc : SC) : Call sc n_X5_init [aD 40, aI (nI 2000)] G83_ = some (.inl none, G87_) := by
  rw [c0_X5_init, e_X5_init_0, cl_24, cb_24, gf195, gf196, e_X5_init_9, gf198, bO_some, e_X5_init_12, cl_2000, cb_2000, gf199, gf200, e_X5_init_16, gf202, bO_some, e_X5_init_19]
theorem gf204 : putF G87_ 0 11 10 3 (aD 40) = some G88_ := by rfl
theorem gf205 : G88_.1.length = 43 := by rfl
theorem gf206 : hpush G88_ (oO 7 [aN, aN, aI 0, aI 0]) = G89_ := by rfl
theorem gf207 : G89_.1.length = 44 := by rfl
theorem gf208 : hpush G89_ (oI 0 24 (fun _ => 0)) = G90_ := by rfl
theorem gf209 : G90_.1.length = 45 := by rfl
theorem gf210 : putF G90_ 43 7 0 3 (aD 44) = some G91_ := by rfl
theorem gf211 : G91_.1.length = 45 := by rfl
theorem gf212 : hpush G91_ (oI 0 300 (fun _ => 0)) = G92_ := by rfl
theorem gf213 : G92_.1.length = 46 := by rfl
theorem gf214 : putF G92_ 43 7 1 3 (aD 45) = some G93_ := by rfl
theorem gf215 : G93_.1.length = 46 := by rfl
theorem gc18 (sc : SC) : Call sc n_X5_init [aD 43, aI (nI 300)] G89_ = some (.inl none, G93_) := by
  rw [c0_X5_init, e_X5_init_0, cl_24, cb_24, gf207, gf208, e_X5_init_9, gf210, bO_some, e_X5_init_12, cl_300, cb_300, gf211, gf212, e_X5_init_16, gf214, bO_some, e_X5_init_19]
theorem gf216 : putF G93_ 0 11 11 3 (aD 43) = some G94_ := by rfl
theorem gf217 : G94_.1.length = 46 := by rfl
theorem gf218 : hpush G94_ (oO 8 [aN, aI 0]) = G95_ := by rfl
theorem gf219 : G95_.1.length = 47 := by rfl
theorem gf220 : hpush G95_ (oI 0 150 (fun _ => 0)) = G96_ := by rfl
theorem gf221 : G96_.1.length = 48 := by rfl
theorem gf222 : putF G96_ 46 8 0 3 (aD 47) = some G97_ := by rfl
theorem gf223 : G97_.1.length = 48 := by rfl
theorem gc19 (sc : SC) : Call sc n_X6_init [aD 46, aI (nI 30)] G95_ = some (.inl none, G97_) := by
  rw [c0_X6_init, e_X6_init_0, show nI 30 * nI 5 = nI 150 by decide, cl_150, cb_150, gf219, gf220, e_X6_init_10, gf222, bO_some, e_X6_init_13]
theorem gf224 : putF G97_ 0 11 13 3 (aD 46) = some G98_ := by rfl
theorem gf225 : G98_.1.length = 48 := by rfl
theorem gf226 : hpush G98_ (oO 8 [aN, aI 0]) = G99_ := by rfl
theorem gf227 : G99_.1.length = 49 := by rfl
theorem gf228 : hpush G99_ (oI 0 300 (fun _ => 0)) = G100_ := by rfl
theorem gf229 : G100_.1.length = 50 := by rfl
theorem gf230 : putF G100_ 48 8 0 3 (aD 49) = some G101_ := by rfl
theorem gf231 : G101_.1.length = 50 := by rfl
theorem gc20 (sc : SC) : Call sc n_X6_init [aD 48, aI (nI 60)] G99_ = some (.inl none, G101_) := by
  rw [c0_X6_init, e_X6_init_0, show nI 60 * nI 5 = nI 300 by decide, cl_300, cb_300, gf227, gf228, e_X6_init_10, gf230, bO_some, e_X6_init_13]
theorem gf232 : putF G101_ 0 11 14 3 (aD 48) = some G102_ := by rfl
theorem gf233 : G102_.1.length = 50 := by rfl
theorem gf234 : hpush G102_ (oI 0 24 (fun _ => 0)) = G103_ := by rfl
theorem gf235 : G103_.1.length = 51 := by rfl
theorem gf236 : putF G103_ 0 11 15 3 (aD 50) = some G104_ := by rfl
theorem gf237 : G104_.1.length = 51 := by rfl
theorem gc21 (sc : SC) : Call sc n_X9_init [aD 0] G1_ = some (.inl none, G104_) := by
  rw [c0_X9_init, e_X9_init_0, gf2, gf3, gc1, bC_v, tl0, e_X9_init_12, gf17, bO_some, e_X9_init_15, gf18, gf19, gc2, bC_v, tl0, e_X9_init_23, gf25, bO_some, e_X9_init_26, gf26, gf27, gc3, bC_v, tl0, e_X9_init_36, gf33, bO_some, e_X9_init_39, gf34, gf35, gc4, bC_v, tl0, e_X9_init_49, gf41, bO_some, e_X9_init_52, gf42, gf43, gf45, bF_D, e_X9_init_61, gc5, bC_v, tl0, e_X9_init_64, gf64, bO_some, e_X9_init_67, gf65, gf66, gf68, bF_D, e_X9_init_76, gf69, bF_D, e_X9_init_80, gc6, bC_v, tl0, e_X9_init_83, gf74, bO_some, e_X9_init_86, gf75, gf76, gc15, bC_v, tl0, e_X9_init_94, gf172, bO_some, e_X9_init_97, cl_24, cb_24, gf173, gf174, e_X9_init_102, gf176, bO_some, e_X9_init_105, cl_24, cb_24, gf177, gf178, e_X9_init_110, gf180, bO_some, e_X9_init_113, gf181, gf182, gc16, bC_v, tl0, e_X9_init_124, gf192, bO_some, e_X9_init_127, gf193, gf194, gc17, bC_v, tl0, e_X9_init_138, gf204, bO_some, e_X9_init_141, gf205, gf206, gc18, bC_v, tl0, e_X9_init_152, gf216, bO_some, e_X9_init_155, gf217, gf218, gc19, bC_v, tl0, e_X9_init_165, gf224, bO_some, e_X9_init_168, gf225, gf226, gc20, bC_v, tl0, e_X9_init_178, gf232, bO_some, e_X9_init_181, cl_24, cb_24, gf233, gf234, e_X9_init_186, gf236, bO_some, e_X9_init_189]
theorem gf238 : hpush G104_ (oO 12 [aI 0, aN, aI 0, aN, aN, aI 0, aN, aI 0, aI 0, aI 0, aI 0, aN, aI 0, aN, aN, aN, aI 0, aN, aN, aN, aI 0, aI 0, aI 0, aN, aN, aI 0, aN, aI 0, aN, aN, aI 0, aN, aI 0, aN, aN]) = G105_ := by rfl
theorem gf239 : G105_.1.length = 52 := by rw [show G105_ = hpush G104_ (oO 12 [aI 0, aN, aI 0, aN, aN, aI 0, aN, aI 0, aI 0, aI 0, aI 0, aN, aI 0, aN, aN, aN, aI 0, aN, aN, aN, aI 0, aI 0, aI 0, aN, aN, aI 0, aN, aI 0, aN, aN, aI 0, aN, aI 0, aN, aN]) from rfl, push_len, gf237]
theorem gf240 : hget G105_ 51 = some (oO 12 [aI 0, aN, aI 0, aN, aN, aI 0, aN, aI 0, aI 0, aI 0, aI 0, aN, aI 0, aN, aN, aN, aI 0, aN, aN, aN, aI 0, aI 0, aI 0, aN, aN, aI 0, aN, aI 0, aN, aN, aI 0, aN, aI 0, aN, aN]) := by rw [show G105_ = hpush G104_ (oO 12 [aI 0, aN, aI 0, aN, aN, aI 0, aN, aI 0, aI 0, aI 0, aI 0, aN, aI 0, aN, aN, aN, aI 0, aN, aN, aN, aI 0, aI 0, aI 0, aN, aN, aI 0, aN, aI 0, aN, aN, aI 0, aN, aI 0, aN, aN]) from rfl, ← gf237]; exact hget_new
theorem gf241 : hpush G105_ (oI 0 120 (fun _ => 0)) = G106_ := by rfl
theorem gf242 : G106_.1.length = 53 := by rw [show G106_ = hpush G105_ (oI 0 120 (fun _ => 0)) from rfl, push_len, gf239]
theorem gf243 : hget G106_ 51 = some (oO 12 [aI 0, aN, aI 0, aN, aN, aI 0, aN, aI 0, aI 0, aI 0, aI 0, aN, aI 0, aN, aN, aN, aI 0, aN, aN, aN, aI 0, aI 0, aI 0, aN, aN, aI 0, aN, aI 0, aN, aN, aI 0, aN, aI 0, aN, aN]) := (hget_push (show 51 < G105_.1.length by rw [gf239]; omega)).trans gf240
set_option maxRecDepth 8000 in
theorem gf244 : putF G106_ 51 12 1 3 (aD 52) = some G107_ := putF_D gf243 (show 1 < 35 by decide) rfl
theorem gf245 : G107_.1.length = 53 := by rw [show G107_ = hset G106_ 51 (oO 12 [aI 0, aD 52, aI 0, aN, aN, aI 0, aN, aI 0, aI 0, aI 0, aI 0, aN, aI 0, aN, aN, aN, aI 0, aN, aN, aN, aI 0, aI 0, aI 0, aN, aN, aI 0, aN, aI 0, aN, aN, aI 0, aN, aI 0, aN, aN]) from rfl, hset_len, gf242]
theorem gf246 : hget G107_ 51 = some (oO 12 [aI 0, aD 52, aI 0, aN, aN, aI 0, aN, aI 0, aI 0, aI 0, aI 0, aN, aI 0, aN, aN, aN, aI 0, aN, aN, aN, aI 0, aI 0, aI 0, aN, aN, aI 0, aN, aI 0, aN, aN, aI 0, aN, aI 0, aN, aN]) := hget_set gf243
theorem gf247 : hpush G107_ (oI 0 301 (fun _ => 0)) = G108_ := by rfl
theorem gf248 : G108_.1.length = 54 := by rw [show G108_ = hpush G107_ (oI 0 301 (fun _ => 0)) from rfl, push_len, gf245]
theorem gf249 : hget G108_ 51 = some (oO 12 [aI 0, aD 52, aI 0, aN, aN, aI 0, aN, aI 0, aI 0, aI 0, aI 0, aN, aI 0, aN, aN, aN, aI 0, aN, aN, aN, aI 0, aI 0, aI 0, aN, aN, aI 0, aN, aI 0, aN, aN, aI 0, aN, aI 0, aN, aN]) := (hget_push (show 51 < G107_.1.length by rw [gf245]; omega)).trans gf246
set_option maxRecDepth 8000 in
theorem gf250 : putF G108_ 51 12 3 3 (aD 53) = some G109_ := putF_D gf249 (show 3 < 35 by decide) rfl
theorem gf251 : G109_.1.length = 54 := by rw [show G109_ = hset G108_ 51 (oO 12 [aI 0, aD 52, aI 0, aD 53, aN, aI 0, aN, aI 0, aI 0, aI 0, aI 0, aN, aI 0, aN, aN, aN, aI 0, aN, aN, aN, aI 0, aI 0, aI 0, aN, aN, aI 0, aN, aI 0, aN, aN, aI 0, aN, aI 0, aN, aN]) from rfl, hset_len, gf248]
theorem gf252 : hget G109_ 51 = some (oO 12 [aI 0, aD 52, aI 0, aD 53, aN, aI 0, aN, aI 0, aI 0, aI 0, aI 0, aN, aI 0, aN, aN, aN, aI 0, aN, aN, aN, aI 0, aI 0, aI 0, aN, aN, aI 0, aN, aI 0, aN, aN, aI 0, aN, aI 0, aN, aN]) := hget_set gf249
theorem gf253 : hpush G109_ (oI 0 2408 (fun _ => 0)) = G110_ := by rfl
theorem gf254 : G110_.1.length = 55 := by rw [show G110_ = hpush G109_ (oI 0 2408 (fun _ => 0)) from rfl, push_len, gf251]
theorem gf255 : hget G110_ 51 = some (oO 12 [aI 0, aD 52, aI 0, aD 53, aN, aI 0, aN, aI 0, aI 0, aI 0, aI 0, aN, aI 0, aN, aN, aN, aI 0, aN, aN, aN, aI 0, aI 0, aI 0, aN, aN, aI 0, aN, aI 0, aN, aN, aI 0, aN, aI 0, aN, aN]) := (hget_push (show 51 < G109_.1.length by rw [gf251]; omega)).trans gf252
set_option maxRecDepth 8000 in
theorem gf256 : putF G110_ 51 12 4 3 (aD 54) = some G111_ := putF_D gf255 (show 4 < 35 by decide) rfl
theorem gf257 : G111_.1.length = 55 := by rw [show G111_ = hset G110_ 51 (oO 12 [aI 0, aD 52, aI 0, aD 53, aD 54, aI 0, aN, aI 0, aI 0, aI 0, aI 0, aN, aI 0, aN, aN, aN, aI 0, aN, aN, aN, aI 0, aI 0, aI 0, aN, aN, aI 0, aN, aI 0, aN, aN, aI 0, aN, aI 0, aN, aN]) from rfl, hset_len, gf254]
theorem gf258 : hget G111_ 51 = some (oO 12 [aI 0, aD 52, aI 0, aD 53, aD 54, aI 0, aN, aI 0, aI 0, aI 0, aI 0, aN, aI 0, aN, aN, aN, aI 0, aN, aN, aN, aI 0, aI 0, aI 0, aN, aN, aI 0, aN, aI 0, aN, aN, aI 0, aN, aI 0, aN, aN]) := hget_set gf255
theorem gf259 : hpush G111_ (oI 1 120 (fun _ => 0)) = G112_ := by rfl
theorem gf260 : G112_.1.length = 56 := by rw [show G112_ = hpush G111_ (oI 1 120 (fun _ => 0)) from rfl, push_len, gf257]
theorem gf261 : hget G112_ 51 = some (oO 12 [aI 0, aD 52, aI 0, aD 53, aD 54, aI 0, aN, aI 0, aI 0, aI 0, aI 0, aN, aI 0, aN, aN, aN, aI 0, aN, aN, aN, aI 0, aI 0, aI 0, aN, aN, aI 0, aN, aI 0, aN, aN, aI 0, aN, aI 0, aN, aN]) := (hget_push (show 51 < G111_.1.length by rw [gf257]; omega)).trans gf258
set_option maxRecDepth 8000 in
theorem gf262 : putF G112_ 51 12 6 3 (aD 55) = some G113_ := putF_D gf261 (show 6 < 35 by decide) rfl
theorem gf263 : G113_.1.length = 56 := by rw [show G113_ = hset G112_ 51 (oO 12 [aI 0, aD 52, aI 0, aD 53, aD 54, aI 0, aD 55, aI 0, aI 0, aI 0, aI 0, aN, aI 0, aN, aN, aN, aI 0, aN, aN, aN, aI 0, aI 0, aI 0, aN, aN, aI 0, aN, aI 0, aN, aN, aI 0, aN, aI 0, aN, aN]) from rfl, hset_len, gf260]
theorem gf264 : hget G113_ 51 = some (oO 12 [aI 0, aD 52, aI 0, aD 53, aD 54, aI 0, aD 55, aI 0, aI 0, aI 0, aI 0, aN, aI 0, aN, aN, aN, aI 0, aN, aN, aN, aI 0, aI 0, aI 0, aN, aN, aI 0, aN, aI 0, aN, aN, aI 0, aN, aI 0, aN, aN]) := hget_set gf261
theorem gf265 : hpush G113_ (oI 0 244 (fun _ => 0)) = G114_ := by rfl
theorem gf266 : G114_.1.length = 57 := by rw [show G114_ = hpush G113_ (oI 0 244 (fun _ => 0)) from rfl, push_len, gf263]
theorem gf267 : hget G114_ 51 = some (oO 12 [aI 0, aD 52, aI 0, aD 53, aD 54, aI 0, aD 55, aI 0, aI 0, aI 0, aI 0, aN, aI 0, aN, aN, aN, aI 0, aN, aN, aN, aI 0, aI 0, aI 0, aN, aN, aI 0, aN, aI 0, aN, aN, aI 0, aN, aI 0, aN, aN]) := (hget_push (show 51 < G113_.1.length by rw [gf263]; omega)).trans gf264
set_option maxRecDepth 8000 in
theorem gf268 : putF G114_ 51 12 11 3 (aD 56) = some G115_ := putF_D gf267 (show 11 < 35 by decide) rfl
theorem gf269 : G115_.1.length = 57 := by rw [show G115_ = hset G114_ 51 (oO 12 [aI 0, aD 52, aI 0, aD 53, aD 54, aI 0, aD 55, aI 0, aI 0, aI 0, aI 0, aD 56, aI 0, aN, aN, aN, aI 0, aN, aN, aN, aI 0, aI 0, aI 0, aN, aN, aI 0, aN, aI 0, aN, aN, aI 0, aN, aI 0, aN, aN]) from rfl, hset_len, gf266]
theorem gf270 : hget G115_ 51 = some (oO 12 [aI 0, aD 52, aI 0, aD 53, aD 54, aI 0, aD 55, aI 0, aI 0, aI 0, aI 0, aD 56, aI 0, aN, aN, aN, aI 0, aN, aN, aN, aI 0, aI 0, aI 0, aN, aN, aI 0, aN, aI 0, aN, aN, aI 0, aN, aI 0, aN, aN]) := hget_set gf267
theorem gf271 : hpush G115_ (oI 3 62 (fun _ => 0)) = G116_ := by rfl
theorem gf272 : G116_.1.length = 58 := by rw [show G116_ = hpush G115_ (oI 3 62 (fun _ => 0)) from rfl, push_len, gf269]
theorem gf273 : hget G116_ 51 = some (oO 12 [aI 0, aD 52, aI 0, aD 53, aD 54, aI 0, aD 55, aI 0, aI 0, aI 0, aI 0, aD 56, aI 0, aN, aN, aN, aI 0, aN, aN, aN, aI 0, aI 0, aI 0, aN, aN, aI 0, aN, aI 0, aN, aN, aI 0, aN, aI 0, aN, aN]) := (hget_push (show 51 < G115_.1.length by rw [gf269]; omega)).trans gf270
set_option maxRecDepth 8000 in
theorem gf274 : putF G116_ 51 12 13 3 (aD 57) = some G117_ := putF_D gf273 (show 13 < 35 by decide) rfl
theorem gf275 : G117_.1.length = 58 := by rw [show G117_ = hset G116_ 51 (oO 12 [aI 0, aD 52, aI 0, aD 53, aD 54, aI 0, aD 55, aI 0, aI 0, aI 0, aI 0, aD 56, aI 0, aD 57, aN, aN, aI 0, aN, aN, aN, aI 0, aI 0, aI 0, aN, aN, aI 0, aN, aI 0, aN, aN, aI 0, aN, aI 0, aN, aN]) from rfl, hset_len, gf272]
theorem gf276 : hget G117_ 51 = some (oO 12 [aI 0, aD 52, aI 0, aD 53, aD 54, aI 0, aD 55, aI 0, aI 0, aI 0, aI 0, aD 56, aI 0, aD 57, aN, aN, aI 0, aN, aN, aN, aI 0, aI 0, aI 0, aN, aN, aI 0, aN, aI 0, aN, aN, aI 0, aN, aI 0, aN, aN]) := hget_set gf273
theorem gf277 : hpush G117_ (oI 0 62 (fun _ => 0)) = G118_ := by rfl
theorem gf278 : G118_.1.length = 59 := by rw [show G118_ = hpush G117_ (oI 0 62 (fun _ => 0)) from rfl, push_len, gf275]
theorem gf279 : hget G118_ 51 = some (oO 12 [aI 0, aD 52, aI 0, aD 53, aD 54, aI 0, aD 55, aI 0, aI 0, aI 0, aI 0, aD 56, aI 0, aD 57, aN, aN, aI 0, aN, aN, aN, aI 0, aI 0, aI 0, aN, aN, aI 0, aN, aI 0, aN, aN, aI 0, aN, aI 0, aN, aN]) := (hget_push (show 51 < G117_.1.length by rw [gf275]; omega)).trans gf276
set_option maxRecDepth 8000 in
theorem gf280 : putF G118_ 51 12 14 3 (aD 58) = some G119_ := putF_D gf279 (show 14 < 35 by decide) rfl
theorem gf281 : G119_.1.length = 59 := by rw [show G119_ = hset G118_ 51 (oO 12 [aI 0, aD 52, aI 0, aD 53, aD 54, aI 0, aD 55, aI 0, aI 0, aI 0, aI 0, aD 56, aI 0, aD 57, aD 58, aN, aI 0, aN, aN, aN, aI 0, aI 0, aI 0, aN, aN, aI 0, aN, aI 0, aN, aN, aI 0, aN, aI 0, aN, aN]) from rfl, hset_len, gf278]
theorem gf282 : hget G119_ 51 = some (oO 12 [aI 0, aD 52, aI 0, aD 53, aD 54, aI 0, aD 55, aI 0, aI 0, aI 0, aI 0, aD 56, aI 0, aD 57, aD 58, aN, aI 0, aN, aN, aN, aI 0, aI 0, aI 0, aN, aN, aI 0, aN, aI 0, aN, aN, aI 0, aN, aI 0, aN, aN]) := hget_set gf279
theorem gf283 : hpush G119_ (oI 1 1200 (fun _ => 0)) = G120_ := by rfl
theorem gf284 : G120_.1.length = 60 := by rw [show G120_ = hpush G119_ (oI 1 1200 (fun _ => 0)) from rfl, push_len, gf281]
theorem gf285 : hget G120_ 51 = some (oO 12 [aI 0, aD 52, aI 0, aD 53, aD 54, aI 0, aD 55, aI 0, aI 0, aI 0, aI 0, aD 56, aI 0, aD 57, aD 58, aN, aI 0, aN, aN, aN, aI 0, aI 0, aI 0, aN, aN, aI 0, aN, aI 0, aN, aN, aI 0, aN, aI 0, aN, aN]) := (hget_push (show 51 < G119_.1.length by rw [gf281]; omega)).trans gf282
set_option maxRecDepth 8000 in
theorem gf286 : putF G120_ 51 12 15 3 (aD 59) = some G121_ := putF_D gf285 (show 15 < 35 by decide) rfl
theorem gf287 : G121_.1.length = 60 := by rw [show G121_ = hset G120_ 51 (oO 12 [aI 0, aD 52, aI 0, aD 53, aD 54, aI 0, aD 55, aI 0, aI 0, aI 0, aI 0, aD 56, aI 0, aD 57, aD 58, aD 59, aI 0, aN, aN, aN, aI 0, aI 0, aI 0, aN, aN, aI 0, aN, aI 0, aN, aN, aI 0, aN, aI 0, aN, aN]) from rfl, hset_len, gf284]
theorem gf288 : hget G121_ 51 = some (oO 12 [aI 0, aD 52, aI 0, aD 53, aD 54, aI 0, aD 55, aI 0, aI 0, aI 0, aI 0, aD 56, aI 0, aD 57, aD 58, aD 59, aI 0, aN, aN, aN, aI 0, aI 0, aI 0, aN, aN, aI 0, aN, aI 0, aN, aN, aI 0, aN, aI 0, aN, aN]) := hget_set gf285
theorem gf289 : hpush G121_ (oI 0 24 (fun _ => 0)) = G122_ := by rfl
theorem gf290 : G122_.1.length = 61 := by rw [show G122_ = hpush G121_ (oI 0 24 (fun _ => 0)) from rfl, push_len, gf287]
theorem gf291 : hget G122_ 51 = some (oO 12 [aI 0, aD 52, aI 0, aD 53, aD 54, aI 0, aD 55, aI 0, aI 0, aI 0, aI 0, aD 56, aI 0, aD 57, aD 58, aD 59, aI 0, aN, aN, aN, aI 0, aI 0, aI 0, aN, aN, aI 0, aN, aI 0, aN, aN, aI 0, aN, aI 0, aN, aN]) := (hget_push (show 51 < G121_.1.length by rw [gf287]; omega)).trans gf288
set_option maxRecDepth 8000 in
theorem gf292 : putF G122_ 51 12 17 3 (aD 60) = some G123_ := putF_D gf291 (show 17 < 35 by decide) rfl
theorem gf293 : G123_.1.length = 61 := by rw [show G123_ = hset G122_ 51 (oO 12 [aI 0, aD 52, aI 0, aD 53, aD 54, aI 0, aD 55, aI 0, aI 0, aI 0, aI 0, aD 56, aI 0, aD 57, aD 58, aD 59, aI 0, aD 60, aN, aN, aI 0, aI 0, aI 0, aN, aN, aI 0, aN, aI 0, aN, aN, aI 0, aN, aI 0, aN, aN]) from rfl, hset_len, gf290]
theorem gf294 : hget G123_ 51 = some (oO 12 [aI 0, aD 52, aI 0, aD 53, aD 54, aI 0, aD 55, aI 0, aI 0, aI 0, aI 0, aD 56, aI 0, aD 57, aD 58, aD 59, aI 0, aD 60, aN, aN, aI 0, aI 0, aI 0, aN, aN, aI 0, aN, aI 0, aN, aN, aI 0, aN, aI 0, aN, aN]) := hget_set gf291
theorem gf295 : hpush G123_ (oI 0 24 (fun _ => 0)) = G124_ := by rfl
theorem gf296 : G124_.1.length = 62 := by rw [show G124_ = hpush G123_ (oI 0 24 (fun _ => 0)) from rfl, push_len, gf293]
theorem gf297 : hget G124_ 51 = some (oO 12 [aI 0, aD 52, aI 0, aD 53, aD 54, aI 0, aD 55, aI 0, aI 0, aI 0, aI 0, aD 56, aI 0, aD 57, aD 58, aD 59, aI 0, aD 60, aN, aN, aI 0, aI 0, aI 0, aN, aN, aI 0, aN, aI 0, aN, aN, aI 0, aN, aI 0, aN, aN]) := (hget_push (show 51 < G123_.1.length by rw [gf293]; omega)).trans gf294
set_option maxRecDepth 8000 in
theorem gf298 : putF G124_ 51 12 18 3 (aD 61) = some G125_ := putF_D gf297 (show 18 < 35 by decide) rfl
theorem gf299 : G125_.1.length = 62 := by rw [show G125_ = hset G124_ 51 (oO 12 [aI 0, aD 52, aI 0, aD 53, aD 54, aI 0, aD 55, aI 0, aI 0, aI 0, aI 0, aD 56, aI 0, aD 57, aD 58, aD 59, aI 0, aD 60, aD 61, aN, aI 0, aI 0, aI 0, aN, aN, aI 0, aN, aI 0, aN, aN, aI 0, aN, aI 0, aN, aN]) from rfl, hset_len, gf296]
theorem gf300 : hget G125_ 51 = some (oO 12 [aI 0, aD 52, aI 0, aD 53, aD 54, aI 0, aD 55, aI 0, aI 0, aI 0, aI 0, aD 56, aI 0, aD 57, aD 58, aD 59, aI 0, aD 60, aD 61, aN, aI 0, aI 0, aI 0, aN, aN, aI 0, aN, aI 0, aN, aN, aI 0, aN, aI 0, aN, aN]) := hget_set gf297
theorem gf301 : hpush G125_ (oI 0 2000 (fun _ => 0)) = G126_ := by rfl
theorem gf302 : G126_.1.length = 63 := by rw [show G126_ = hpush G125_ (oI 0 2000 (fun _ => 0)) from rfl, push_len, gf299]
theorem gf303 : hget G126_ 51 = some (oO 12 [aI 0, aD 52, aI 0, aD 53, aD 54, aI 0, aD 55, aI 0, aI 0, aI 0, aI 0, aD 56, aI 0, aD 57, aD 58, aD 59, aI 0, aD 60, aD 61, aN, aI 0, aI 0, aI 0, aN, aN, aI 0, aN, aI 0, aN, aN, aI 0, aN, aI 0, aN, aN]) := (hget_push (show 51 < G125_.1.length by rw [gf299]; omega)).trans gf300
set_option maxRecDepth 8000 in
theorem gf304 : putF G126_ 51 12 19 3 (aD 62) = some G127_ := putF_D gf303 (show 19 < 35 by decide) rfl
theorem gf305 : G127_.1.length = 63 := by rw [show G127_ = hset G126_ 51 (oO 12 [aI 0, aD 52, aI 0, aD 53, aD 54, aI 0, aD 55, aI 0, aI 0, aI 0, aI 0, aD 56, aI 0, aD 57, aD 58, aD 59, aI 0, aD 60, aD 61, aD 62, aI 0, aI 0, aI 0, aN, aN, aI 0, aN, aI 0, aN, aN, aI 0, aN, aI 0, aN, aN]) from rfl, hset_len, gf302]
theorem gf306 : hget G127_ 51 = some (oO 12 [aI 0, aD 52, aI 0, aD 53, aD 54, aI 0, aD 55, aI 0, aI 0, aI 0, aI 0, aD 56, aI 0, aD 57, aD 58, aD 59, aI 0, aD 60, aD 61, aD 62, aI 0, aI 0, aI 0, aN, aN, aI 0, aN, aI 0, aN, aN, aI 0, aN, aI 0, aN, aN]) := hget_set gf303
theorem gf307 : hpush G127_ (oI 0 24 (fun _ => 0)) = G128_ := by rfl
theorem gf308 : G128_.1.length = 64 := by rw [show G128_ = hpush G127_ (oI 0 24 (fun _ => 0)) from rfl, push_len, gf305]
theorem gf309 : hget G128_ 51 = some (oO 12 [aI 0, aD 52, aI 0, aD 53, aD 54, aI 0, aD 55, aI 0, aI 0, aI 0, aI 0, aD 56, aI 0, aD 57, aD 58, aD 59, aI 0, aD 60, aD 61, aD 62, aI 0, aI 0, aI 0, aN, aN, aI 0, aN, aI 0, aN, aN, aI 0, aN, aI 0, aN, aN]) := (hget_push (show 51 < G127_.1.length by rw [gf305]; omega)).trans gf306
set_option maxRecDepth 8000 in
theorem gf310 : putF G128_ 51 12 23 3 (aD 63) = some G129_ := putF_D gf309 (show 23 < 35 by decide) rfl
theorem gf311 : G129_.1.length = 64 := by rw [show G129_ = hset G128_ 51 (oO 12 [aI 0, aD 52, aI 0, aD 53, aD 54, aI 0, aD 55, aI 0, aI 0, aI 0, aI 0, aD 56, aI 0, aD 57, aD 58, aD 59, aI 0, aD 60, aD 61, aD 62, aI 0, aI 0, aI 0, aD 63, aN, aI 0, aN, aI 0, aN, aN, aI 0, aN, aI 0, aN, aN]) from rfl, hset_len, gf308]
theorem gf312 : hget G129_ 51 = some (oO 12 [aI 0, aD 52, aI 0, aD 53, aD 54, aI 0, aD 55, aI 0, aI 0, aI 0, aI 0, aD 56, aI 0, aD 57, aD 58, aD 59, aI 0, aD 60, aD 61, aD 62, aI 0, aI 0, aI 0, aD 63, aN, aI 0, aN, aI 0, aN, aN, aI 0, aN, aI 0, aN, aN]) := hget_set gf309
theorem gf313 : hpush G129_ (oI 0 2000 (fun _ => 0)) = G130_ := by rfl
theorem gf314 : G130_.1.length = 65 := by rw [show G130_ = hpush G129_ (oI 0 2000 (fun _ => 0)) from rfl, push_len, gf311]
theorem gf315 : hget G130_ 51 = some (oO 12 [aI 0, aD 52, aI 0, aD 53, aD 54, aI 0, aD 55, aI 0, aI 0, aI 0, aI 0, aD 56, aI 0, aD 57, aD 58, aD 59, aI 0, aD 60, aD 61, aD 62, aI 0, aI 0, aI 0, aD 63, aN, aI 0, aN, aI 0, aN, aN, aI 0, aN, aI 0, aN, aN]) := (hget_push (show 51 < G129_.1.length by rw [gf311]; omega)).trans gf312
set_option maxRecDepth 8000 in
theorem gf316 : putF G130_ 51 12 24 3 (aD 64) = some G131_ := putF_D gf315 (show 24 < 35 by decide) rfl
theorem gf317 : G131_.1.length = 65 := by rw [show G131_ = hset G130_ 51 (oO 12 [aI 0, aD 52, aI 0, aD 53, aD 54, aI 0, aD 55, aI 0, aI 0, aI 0, aI 0, aD 56, aI 0, aD 57, aD 58, aD 59, aI 0, aD 60, aD 61, aD 62, aI 0, aI 0, aI 0, aD 63, aD 64, aI 0, aN, aI 0, aN, aN, aI 0, aN, aI 0, aN, aN]) from rfl, hset_len, gf314]
theorem gf318 : hget G131_ 51 = some (oO 12 [aI 0, aD 52, aI 0, aD 53, aD 54, aI 0, aD 55, aI 0, aI 0, aI 0, aI 0, aD 56, aI 0, aD 57, aD 58, aD 59, aI 0, aD 60, aD 61, aD 62, aI 0, aI 0, aI 0, aD 63, aD 64, aI 0, aN, aI 0, aN, aN, aI 0, aN, aI 0, aN, aN]) := hget_set gf315
theorem gf319 : hpush G131_ (oI 0 24 (fun _ => 0)) = G132_ := by rfl
theorem gf320 : G132_.1.length = 66 := by rw [show G132_ = hpush G131_ (oI 0 24 (fun _ => 0)) from rfl, push_len, gf317]
theorem gf321 : hget G132_ 51 = some (oO 12 [aI 0, aD 52, aI 0, aD 53, aD 54, aI 0, aD 55, aI 0, aI 0, aI 0, aI 0, aD 56, aI 0, aD 57, aD 58, aD 59, aI 0, aD 60, aD 61, aD 62, aI 0, aI 0, aI 0, aD 63, aD 64, aI 0, aN, aI 0, aN, aN, aI 0, aN, aI 0, aN, aN]) := (hget_push (show 51 < G131_.1.length by rw [gf317]; omega)).trans gf318
set_option maxRecDepth 8000 in
theorem gf322 : putF G132_ 51 12 26 3 (aD 65) = some G133_ := putF_D gf321 (show 26 < 35 by decide) rfl
theorem gf323 : G133_.1.length = 66 := by rw [show G133_ = hset G132_ 51 (oO 12 [aI 0, aD 52, aI 0, aD 53, aD 54, aI 0, aD 55, aI 0, aI 0, aI 0, aI 0, aD 56, aI 0, aD 57, aD 58, aD 59, aI 0, aD 60, aD 61, aD 62, aI 0, aI 0, aI 0, aD 63, aD 64, aI 0, aD 65, aI 0, aN, aN, aI 0, aN, aI 0, aN, aN]) from rfl, hset_len, gf320]
theorem gf324 : hget G133_ 51 = some (oO 12 [aI 0, aD 52, aI 0, aD 53, aD 54, aI 0, aD 55, aI 0, aI 0, aI 0, aI 0, aD 56, aI 0, aD 57, aD 58, aD 59, aI 0, aD 60, aD 61, aD 62, aI 0, aI 0, aI 0, aD 63, aD 64, aI 0, aD 65, aI 0, aN, aN, aI 0, aN, aI 0, aN, aN]) := hget_set gf321
theorem gf325 : hpush G133_ (oI 0 16 (fun _ => 0)) = G134_ := by rfl
theorem gf326 : G134_.1.length = 67 := by rw [show G134_ = hpush G133_ (oI 0 16 (fun _ => 0)) from rfl, push_len, gf323]
theorem gf327 : hget G134_ 51 = some (oO 12 [aI 0, aD 52, aI 0, aD 53, aD 54, aI 0, aD 55, aI 0, aI 0, aI 0, aI 0, aD 56, aI 0, aD 57, aD 58, aD 59, aI 0, aD 60, aD 61, aD 62, aI 0, aI 0, aI 0, aD 63, aD 64, aI 0, aD 65, aI 0, aN, aN, aI 0, aN, aI 0, aN, aN]) := (hget_push (show 51 < G133_.1.length by rw [gf323]; omega)).trans gf324
set_option maxRecDepth 8000 in
theorem gf328 : putF G134_ 51 12 28 3 (aD 66) = some G135_ := putF_D gf327 (show 28 < 35 by decide) rfl
theorem gf329 : G135_.1.length = 67 := by rw [show G135_ = hset G134_ 51 (oO 12 [aI 0, aD 52, aI 0, aD 53, aD 54, aI 0, aD 55, aI 0, aI 0, aI 0, aI 0, aD 56, aI 0, aD 57, aD 58, aD 59, aI 0, aD 60, aD 61, aD 62, aI 0, aI 0, aI 0, aD 63, aD 64, aI 0, aD 65, aI 0, aD 66, aN, aI 0, aN, aI 0, aN, aN]) from rfl, hset_len, gf326]
theorem gf330 : hget G135_ 51 = some (oO 12 [aI 0, aD 52, aI 0, aD 53, aD 54, aI 0, aD 55, aI 0, aI 0, aI 0, aI 0, aD 56, aI 0, aD 57, aD 58, aD 59, aI 0, aD 60, aD 61, aD 62, aI 0, aI 0, aI 0, aD 63, aD 64, aI 0, aD 65, aI 0, aD 66, aN, aI 0, aN, aI 0, aN, aN]) := hget_set gf327
theorem gf331 : hpush G135_ (oI 0 2000 (fun _ => 0)) = G136_ := by rfl
theorem gf332 : G136_.1.length = 68 := by rw [show G136_ = hpush G135_ (oI 0 2000 (fun _ => 0)) from rfl, push_len, gf329]
theorem gf333 : hget G136_ 51 = some (oO 12 [aI 0, aD 52, aI 0, aD 53, aD 54, aI 0, aD 55, aI 0, aI 0, aI 0, aI 0, aD 56, aI 0, aD 57, aD 58, aD 59, aI 0, aD 60, aD 61, aD 62, aI 0, aI 0, aI 0, aD 63, aD 64, aI 0, aD 65, aI 0, aD 66, aN, aI 0, aN, aI 0, aN, aN]) := (hget_push (show 51 < G135_.1.length by rw [gf329]; omega)).trans gf330
set_option maxRecDepth 8000 in
theorem gf334 : putF G136_ 51 12 29 3 (aD 67) = some G137_ := putF_D gf333 (show 29 < 35 by decide) rfl
theorem gf335 : G137_.1.length = 68 := by rw [show G137_ = hset G136_ 51 (oO 12 [aI 0, aD 52, aI 0, aD 53, aD 54, aI 0, aD 55, aI 0, aI 0, aI 0, aI 0, aD 56, aI 0, aD 57, aD 58, aD 59, aI 0, aD 60, aD 61, aD 62, aI 0, aI 0, aI 0, aD 63, aD 64, aI 0, aD 65, aI 0, aD 66, aD 67, aI 0, aN, aI 0, aN, aN]) from rfl, hset_len, gf332]
theorem gf336 : hget G137_ 51 = some (oO 12 [aI 0, aD 52, aI 0, aD 53, aD 54, aI 0, aD 55, aI 0, aI 0, aI 0, aI 0, aD 56, aI 0, aD 57, aD 58, aD 59, aI 0, aD 60, aD 61, aD 62, aI 0, aI 0, aI 0, aD 63, aD 64, aI 0, aD 65, aI 0, aD 66, aD 67, aI 0, aN, aI 0, aN, aN]) := hget_set gf333
theorem gf337 : hpush G137_ (oI 0 120 (fun _ => 0)) = G138_ := by rfl
theorem gf338 : G138_.1.length = 69 := by rw [show G138_ = hpush G137_ (oI 0 120 (fun _ => 0)) from rfl, push_len, gf335]
theorem gf339 : hget G138_ 51 = some (oO 12 [aI 0, aD 52, aI 0, aD 53, aD 54, aI 0, aD 55, aI 0, aI 0, aI 0, aI 0, aD 56, aI 0, aD 57, aD 58, aD 59, aI 0, aD 60, aD 61, aD 62, aI 0, aI 0, aI 0, aD 63, aD 64, aI 0, aD 65, aI 0, aD 66, aD 67, aI 0, aN, aI 0, aN, aN]) := (hget_push (show 51 < G137_.1.length by rw [gf335]; omega)).trans gf336
set_option maxRecDepth 8000 in
theorem gf340 : putF G138_ 51 12 31 3 (aD 68) = some G139_ := putF_D gf339 (show 31 < 35 by decide) rfl
theorem gf341 : G139_.1.length = 69 := by rw [show G139_ = hset G138_ 51 (oO 12 [aI 0, aD 52, aI 0, aD 53, aD 54, aI 0, aD 55, aI 0, aI 0, aI 0, aI 0, aD 56, aI 0, aD 57, aD 58, aD 59, aI 0, aD 60, aD 61, aD 62, aI 0, aI 0, aI 0, aD 63, aD 64, aI 0, aD 65, aI 0, aD 66, aD 67, aI 0, aD 68, aI 0, aN, aN]) from rfl, hset_len, gf338]
theorem gf342 : hget G139_ 51 = some (oO 12 [aI 0, aD 52, aI 0, aD 53, aD 54, aI 0, aD 55, aI 0, aI 0, aI 0, aI 0, aD 56, aI 0, aD 57, aD 58, aD 59, aI 0, aD 60, aD 61, aD 62, aI 0, aI 0, aI 0, aD 63, aD 64, aI 0, aD 65, aI 0, aD 66, aD 67, aI 0, aD 68, aI 0, aN, aN]) := hget_set gf339
theorem gf343 : hpush G139_ (oI 0 301 (fun _ => 0)) = G140_ := by rfl
theorem gf344 : G140_.1.length = 70 := by rw [show G140_ = hpush G139_ (oI 0 301 (fun _ => 0)) from rfl, push_len, gf341]
theorem gf345 : hget G140_ 51 = some (oO 12 [aI 0, aD 52, aI 0, aD 53, aD 54, aI 0, aD 55, aI 0, aI 0, aI 0, aI 0, aD 56, aI 0, aD 57, aD 58, aD 59, aI 0, aD 60, aD 61, aD 62, aI 0, aI 0, aI 0, aD 63, aD 64, aI 0, aD 65, aI 0, aD 66, aD 67, aI 0, aD 68, aI 0, aN, aN]) := (hget_push (show 51 < G139_.1.length by rw [gf341]; omega)).trans gf342
set_option maxRecDepth 8000 in
theorem gf346 : putF G140_ 51 12 33 3 (aD 69) = some G141_ := putF_D gf345 (show 33 < 35 by decide) rfl
theorem gf347 : G141_.1.length = 70 := by rw [show G141_ = hset G140_ 51 (oO 12 [aI 0, aD 52, aI 0, aD 53, aD 54, aI 0, aD 55, aI 0, aI 0, aI 0, aI 0, aD 56, aI 0, aD 57, aD 58, aD 59, aI 0, aD 60, aD 61, aD 62, aI 0, aI 0, aI 0, aD 63, aD 64, aI 0, aD 65, aI 0, aD 66, aD 67, aI 0, aD 68, aI 0, aD 69, aN]) from rfl, hset_len, gf344]
theorem gf348 : hget G141_ 51 = some (oO 12 [aI 0, aD 52, aI 0, aD 53, aD 54, aI 0, aD 55, aI 0, aI 0, aI 0, aI 0, aD 56, aI 0, aD 57, aD 58, aD 59, aI 0, aD 60, aD 61, aD 62, aI 0, aI 0, aI 0, aD 63, aD 64, aI 0, aD 65, aI 0, aD 66, aD 67, aI 0, aD 68, aI 0, aD 69, aN]) := hget_set gf345
theorem gf349 : hpush G141_ (oI 0 24 (fun _ => 0)) = G142_ := by rfl
theorem gf350 : G142_.1.length = 71 := by rw [show G142_ = hpush G141_ (oI 0 24 (fun _ => 0)) from rfl, push_len, gf347]
theorem gf351 : hget G142_ 51 = some (oO 12 [aI 0, aD 52, aI 0, aD 53, aD 54, aI 0, aD 55, aI 0, aI 0, aI 0, aI 0, aD 56, aI 0, aD 57, aD 58, aD 59, aI 0, aD 60, aD 61, aD 62, aI 0, aI 0, aI 0, aD 63, aD 64, aI 0, aD 65, aI 0, aD 66, aD 67, aI 0, aD 68, aI 0, aD 69, aN]) := (hget_push (show 51 < G141_.1.length by rw [gf347]; omega)).trans gf348
set_option maxRecDepth 8000 in
theorem gf352 : putF G142_ 51 12 34 3 (aD 70) = some G143_ := putF_D gf351 (show 34 < 35 by decide) rfl
theorem gf353 : G143_.1.length = 71 := by rw [show G143_ = hset G142_ 51 (oO 12 [aI 0, aD 52, aI 0, aD 53, aD 54, aI 0, aD 55, aI 0, aI 0, aI 0, aI 0, aD 56, aI 0, aD 57, aD 58, aD 59, aI 0, aD 60, aD 61, aD 62, aI 0, aI 0, aI 0, aD 63, aD 64, aI 0, aD 65, aI 0, aD 66, aD 67, aI 0, aD 68, aI 0, aD 69, aD 70]) from rfl, hset_len, gf350]
theorem gf354 : hget G143_ 51 = some (oO 12 [aI 0, aD 52, aI 0, aD 53, aD 54, aI 0, aD 55, aI 0, aI 0, aI 0, aI 0, aD 56, aI 0, aD 57, aD 58, aD 59, aI 0, aD 60, aD 61, aD 62, aI 0, aI 0, aI 0, aD 63, aD 64, aI 0, aD 65, aI 0, aD 66, aD 67, aI 0, aD 68, aI 0, aD 69, aD 70]) := hget_set gf351
theorem gc22 (sc : SC) : Call sc n_X10_init [aD 51] G105_ = some (.inl none, G143_) := by
  rw [c0_X10_init, e_X10_init_0, cl_120, cb_120, gf239, gf241, e_X10_init_9, gf244, bO_some, e_X10_init_12, cl_301, cb_301, gf245, gf247, e_X10_init_18, gf250, bO_some, e_X10_init_21, cl_2408, cb_2408, gf251, gf253, e_X10_init_27, gf256, bO_some, e_X10_init_30, cl_120, cb_120, gf257, gf259, e_X10_init_35, gf262, bO_some, e_X10_init_38, cl_244, cb_244, gf263, gf265, e_X10_init_44, gf268, bO_some, e_X10_init_47, cl_62, cb_62, gf269, gf271, e_X10_init_52, gf274, bO_some, e_X10_init_55, cl_62, cb_62, gf275, gf277, e_X10_init_60, gf280, bO_some, e_X10_init_63, cl_1200, cb_1200, gf281, gf283, e_X10_init_69, gf286, bO_some, e_X10_init_72, cl_24, cb_24, gf287, gf289, e_X10_init_77, gf292, bO_some, e_X10_init_80, cl_24, cb_24, gf293, gf295, e_X10_init_85, gf298, bO_some, e_X10_init_88, cl_2000, cb_2000, gf299, gf301, e_X10_init_94, gf304, bO_some, e_X10_init_97, cl_24, cb_24, gf305, gf307, e_X10_init_102, gf310, bO_some, e_X10_init_105, cl_2000, cb_2000, gf311, gf313, e_X10_init_111, gf316, bO_some, e_X10_init_114, cl_24, cb_24, gf317, gf319, e_X10_init_119, gf322, bO_some, e_X10_init_122, cl_16, cb_16, gf323, gf325, e_X10_init_127, gf328, bO_some, e_X10_init_130, cl_2000, cb_2000, gf329, gf331, e_X10_init_136, gf334, bO_some, e_X10_init_139, cl_120, cb_120, gf335, gf337, e_X10_init_144, gf340, bO_some, e_X10_init_147, cl_301, cb_301, gf341, gf343, e_X10_init_153, gf346, bO_some, e_X10_init_156, cl_24, cb_24, gf347, gf349, e_X10_init_161, gf352, bO_some, e_X10_init_164]
theorem gf355 : hpush G143_ (oL 1 (fun _ => 0)) = G144_ := by rfl
theorem gf356 : G144_.1.length = 72 := by rw [show G144_ = hpush G143_ (oL 1 (fun _ => 0)) from rfl, push_len, gf353]
theorem gf357 : hget G144_ 51 = some (oO 12 [aI 0, aD 52, aI 0, aD 53, aD 54, aI 0, aD 55, aI 0, aI 0, aI 0, aI 0, aD 56, aI 0, aD 57, aD 58, aD 59, aI 0, aD 60, aD 61, aD 62, aI 0, aI 0, aI 0, aD 63, aD 64, aI 0, aD 65, aI 0, aD 66, aD 67, aI 0, aD 68, aI 0, aD 69, aD 70]) := (hget_push (show 51 < G143_.1.length by rw [gf353]; omega)).trans gf354
theorem gf358 : hpush G144_ (oE 1 (fun _ => 0)) = G145_ := by rfl
theorem gf359 : G145_.1.length = 73 := by rw [show G145_ = hpush G144_ (oE 1 (fun _ => 0)) from rfl, push_len, gf356]
theorem gf360 : hget G145_ 51 = some (oO 12 [aI 0, aD 52, aI 0, aD 53, aD 54, aI 0, aD 55, aI 0, aI 0, aI 0, aI 0, aD 56, aI 0, aD 57, aD 58, aD 59, aI 0, aD 60, aD 61, aD 62, aI 0, aI 0, aI 0, aD 63, aD 64, aI 0, aD 65, aI 0, aD 66, aD 67, aI 0, aD 68, aI 0, aD 69, aD 70]) := (hget_push (show 51 < G144_.1.length by rw [gf356]; omega)).trans gf357
-- cls G104_ x10 G143_ last G145_ top ['gl0', 'gf1', 'gc21', 'bC_v', 'tl0', 'gf237', 'gf238', 'gc22', 'bC_v', 'tl0', 'gf353', 'gf355', 'gf356', 'gf358']

/-! PURE 86: the constructors -/
theorem hset_len {h : AH} {p : Nat} {o : AO} : (hset h p o).1.length = h.1.length := List.length_set ..
theorem tl0 (l : List AV) : Option.toList (none : Option AV) ++ l = l := rfl
theorem tln : Option.toList (none : Option AV) = [] := rfl
def G0_ : AH := ([], 0)
def G1_ : AH := hpush G0_ (oO 11 [aN, aN, aN, aN, aN, aN, aN, aN, aN, aN, aN, aN, aI 0, aN, aN, aN, aI 0])
def G2_ : AH := hpush G1_ (oO 9 [aN, aI 0, aI 0, aI 0, aN])
def G3_ : AH := hpush G2_ (oI 1 120 (fun _ => 0))
def G4_ : AH := hset G3_ 1 (oO 9 [aD 2, aI 0, aI 0, aI 0, aN])
def G5_ : AH := hpush G4_ (oO 8 [aN, aI 0])
def G6_ : AH := hpush G5_ (oI 0 150 (fun _ => 0))
def G7_ : AH := hset G6_ 3 (oO 8 [aD 4, aI 0])
def G8_ : AH := hset G7_ 1 (oO 9 [aD 2, aI 0, aI 0, aI 0, aD 3])
def G9_ : AH := hset G8_ 0 (oO 11 [aD 1, aN, aN, aN, aN, aN, aN, aN, aN, aN, aN, aN, aI 0, aN, aN, aN, aI 0])
def G10_ : AH := hpush G9_ (oO 10 [aN])
def G11_ : AH := hpush G10_ (oO 1 [aN, aI 0, aI 0, aI 0])
def G12_ : AH := hpush G11_ (oI 2 16 (fun _ => 0))
def G13_ : AH := hset G12_ 6 (oO 1 [aD 7, aI 0, aI 0, aI 0])
def G14_ : AH := hset G13_ 6 (oO 1 [aD 7, aI (nI 0), aI 0, aI 0])
def G15_ : AH := hset G14_ 5 (oO 10 [aD 6])
def G16_ : AH := hset G15_ 0 (oO 11 [aD 1, aD 5, aN, aN, aN, aN, aN, aN, aN, aN, aN, aN, aI 0, aN, aN, aN, aI 0])
def G17_ : AH := hpush G16_ (oO 8 [aN, aI 0])
def G18_ : AH := hpush G17_ (oI 0 150 (fun _ => 0))
def G19_ : AH := hset G18_ 8 (oO 8 [aD 9, aI 0])
def G20_ : AH := hset G19_ 0 (oO 11 [aD 1, aD 5, aD 8, aN, aN, aN, aN, aN, aN, aN, aN, aN, aI 0, aN, aN, aN, aI 0])
def G21_ : AH := hpush G20_ (oO 8 [aN, aI 0])
def G22_ : AH := hpush G21_ (oI 0 300 (fun _ => 0))
def G23_ : AH := hset G22_ 10 (oO 8 [aD 11, aI 0])
def G24_ : AH := hset G23_ 0 (oO 11 [aD 1, aD 5, aD 8, aD 10, aN, aN, aN, aN, aN, aN, aN, aN, aI 0, aN, aN, aN, aI 0])
def G25_ : AH := hpush G24_ (oO 5 [aN, aN, aN, aN, aN])
def G26_ : AH := hpush G25_ (oI 0 61 (fun _ => 0))
def G27_ : AH := hset G26_ 12 (oO 5 [aN, aD 13, aN, aN, aN])
def G28_ : AH := hpush G27_ (oI 0 60 (fun _ => 0))
def G29_ : AH := hset G28_ 12 (oO 5 [aN, aD 13, aD 14, aN, aN])
def G30_ : AH := hpush G29_ (oI 0 60 (fun _ => 0))
def G31_ : AH := hset G30_ 12 (oO 5 [aN, aD 13, aD 14, aD 15, aN])
def G32_ : AH := hpush G31_ (oI 3 61 (fun _ => 0))
def G33_ : AH := hset G32_ 12 (oO 5 [aN, aD 13, aD 14, aD 15, aD 16])
def G34_ : AH := hset G33_ 12 (oO 5 [aD 10, aD 13, aD 14, aD 15, aD 16])
def G35_ : AH := hset G34_ 0 (oO 11 [aD 1, aD 5, aD 8, aD 10, aD 12, aN, aN, aN, aN, aN, aN, aN, aI 0, aN, aN, aN, aI 0])
def G36_ : AH := hpush G35_ (oO 4 [aN, aN])
def G37_ : AH := hset G36_ 17 (oO 4 [aD 10, aN])
def G38_ : AH := hset G37_ 17 (oO 4 [aD 10, aD 12])
def G39_ : AH := hset G38_ 0 (oO 11 [aD 1, aD 5, aD 8, aD 10, aD 12, aD 17, aN, aN, aN, aN, aN, aN, aI 0, aN, aN, aN, aI 0])
def G40_ : AH := hpush G39_ (oO 6 [aN, aI 0, aI 0])
def FR0 : Nat → AV := fun _ => aN
def G41_ : AH := hpush G40_ (oR 8 (fun _ => aN))
def G42_ : AH := hset G41_ 18 (oO 6 [aD 19, aI 0, aI 0])
def G43_ : AH := hpush G42_ (oO 8 [aN, aI 0])
def G44_ : AH := hpush G43_ (oI 0 300 (fun _ => 0))
def G45_ : AH := hset G44_ 20 (oO 8 [aD 21, aI 0])
def FR1 : Nat → AV := fun j => if j = (nI 0).toNatClampNeg then aD 20 else FR0 j
def G46_ : AH := hset G45_ 19 (oR 8 FR1)
def G47_ : AH := hpush G46_ (oO 8 [aN, aI 0])
def G48_ : AH := hpush G47_ (oI 0 300 (fun _ => 0))
def G49_ : AH := hset G48_ 22 (oO 8 [aD 23, aI 0])
def FR2 : Nat → AV := fun j => if j = (nI 1).toNatClampNeg then aD 22 else FR1 j
def G50_ : AH := hset G49_ 19 (oR 8 FR2)
def G51_ : AH := hpush G50_ (oO 8 [aN, aI 0])
def G52_ : AH := hpush G51_ (oI 0 300 (fun _ => 0))
def G53_ : AH := hset G52_ 24 (oO 8 [aD 25, aI 0])
def FR3 : Nat → AV := fun j => if j = (nI 2).toNatClampNeg then aD 24 else FR2 j
def G54_ : AH := hset G53_ 19 (oR 8 FR3)
def G55_ : AH := hpush G54_ (oO 8 [aN, aI 0])
def G56_ : AH := hpush G55_ (oI 0 300 (fun _ => 0))
def G57_ : AH := hset G56_ 26 (oO 8 [aD 27, aI 0])
def FR4 : Nat → AV := fun j => if j = (nI 3).toNatClampNeg then aD 26 else FR3 j
def G58_ : AH := hset G57_ 19 (oR 8 FR4)
def G59_ : AH := hpush G58_ (oO 8 [aN, aI 0])
def G60_ : AH := hpush G59_ (oI 0 300 (fun _ => 0))
def G61_ : AH := hset G60_ 28 (oO 8 [aD 29, aI 0])
def FR5 : Nat → AV := fun j => if j = (nI 4).toNatClampNeg then aD 28 else FR4 j
def G62_ : AH := hset G61_ 19 (oR 8 FR5)
def G63_ : AH := hpush G62_ (oO 8 [aN, aI 0])
def G64_ : AH := hpush G63_ (oI 0 300 (fun _ => 0))
def G65_ : AH := hset G64_ 30 (oO 8 [aD 31, aI 0])
def FR6 : Nat → AV := fun j => if j = (nI 5).toNatClampNeg then aD 30 else FR5 j
def G66_ : AH := hset G65_ 19 (oR 8 FR6)
def G67_ : AH := hpush G66_ (oO 8 [aN, aI 0])
def G68_ : AH := hpush G67_ (oI 0 300 (fun _ => 0))
def G69_ : AH := hset G68_ 32 (oO 8 [aD 33, aI 0])
def FR7 : Nat → AV := fun j => if j = (nI 6).toNatClampNeg then aD 32 else FR6 j
def G70_ : AH := hset G69_ 19 (oR 8 FR7)
def G71_ : AH := hpush G70_ (oO 8 [aN, aI 0])
def G72_ : AH := hpush G71_ (oI 0 300 (fun _ => 0))
def G73_ : AH := hset G72_ 34 (oO 8 [aD 35, aI 0])
def FR8 : Nat → AV := fun j => if j = (nI 7).toNatClampNeg then aD 34 else FR7 j
def G74_ : AH := hset G73_ 19 (oR 8 FR8)
def G75_ : AH := hset G74_ 0 (oO 11 [aD 1, aD 5, aD 8, aD 10, aD 12, aD 17, aD 18, aN, aN, aN, aN, aN, aI 0, aN, aN, aN, aI 0])
def G76_ : AH := hpush G75_ (oI 0 24 (fun _ => 0))
def G77_ : AH := hset G76_ 0 (oO 11 [aD 1, aD 5, aD 8, aD 10, aD 12, aD 17, aD 18, aD 36, aN, aN, aN, aN, aI 0, aN, aN, aN, aI 0])
def G78_ : AH := hpush G77_ (oI 0 24 (fun _ => 0))
def G79_ : AH := hset G78_ 0 (oO 11 [aD 1, aD 5, aD 8, aD 10, aD 12, aD 17, aD 18, aD 36, aD 37, aN, aN, aN, aI 0, aN, aN, aN, aI 0])
def G80_ : AH := hpush G79_ (oO 7 [aN, aN, aI 0, aI 0])
def G81_ : AH := hpush G80_ (oI 0 24 (fun _ => 0))
def G82_ : AH := hset G81_ 38 (oO 7 [aD 39, aN, aI 0, aI 0])
def G83_ : AH := hpush G82_ (oI 0 2000 (fun _ => 0))
def G84_ : AH := hset G83_ 38 (oO 7 [aD 39, aD 40, aI 0, aI 0])
def G85_ : AH := hset G84_ 0 (oO 11 [aD 1, aD 5, aD 8, aD 10, aD 12, aD 17, aD 18, aD 36, aD 37, aD 38, aN, aN, aI 0, aN, aN, aN, aI 0])
def G86_ : AH := hpush G85_ (oO 7 [aN, aN, aI 0, aI 0])
def G87_ : AH := hpush G86_ (oI 0 24 (fun _ => 0))
def G88_ : AH := hset G87_ 41 (oO 7 [aD 42, aN, aI 0, aI 0])
def G89_ : AH := hpush G88_ (oI 0 2000 (fun _ => 0))
def G90_ : AH := hset G89_ 41 (oO 7 [aD 42, aD 43, aI 0, aI 0])
def G91_ : AH := hset G90_ 0 (oO 11 [aD 1, aD 5, aD 8, aD 10, aD 12, aD 17, aD 18, aD 36, aD 37, aD 38, aD 41, aN, aI 0, aN, aN, aN, aI 0])
def G92_ : AH := hpush G91_ (oO 7 [aN, aN, aI 0, aI 0])
def G93_ : AH := hpush G92_ (oI 0 24 (fun _ => 0))
def G94_ : AH := hset G93_ 44 (oO 7 [aD 45, aN, aI 0, aI 0])
def G95_ : AH := hpush G94_ (oI 0 300 (fun _ => 0))
def G96_ : AH := hset G95_ 44 (oO 7 [aD 45, aD 46, aI 0, aI 0])
def G97_ : AH := hset G96_ 0 (oO 11 [aD 1, aD 5, aD 8, aD 10, aD 12, aD 17, aD 18, aD 36, aD 37, aD 38, aD 41, aD 44, aI 0, aN, aN, aN, aI 0])
def G98_ : AH := hpush G97_ (oO 8 [aN, aI 0])
def G99_ : AH := hpush G98_ (oI 0 150 (fun _ => 0))
def G100_ : AH := hset G99_ 47 (oO 8 [aD 48, aI 0])
def G101_ : AH := hset G100_ 0 (oO 11 [aD 1, aD 5, aD 8, aD 10, aD 12, aD 17, aD 18, aD 36, aD 37, aD 38, aD 41, aD 44, aI 0, aD 47, aN, aN, aI 0])
def G102_ : AH := hpush G101_ (oO 8 [aN, aI 0])
def G103_ : AH := hpush G102_ (oI 0 300 (fun _ => 0))
def G104_ : AH := hset G103_ 49 (oO 8 [aD 50, aI 0])
def G105_ : AH := hset G104_ 0 (oO 11 [aD 1, aD 5, aD 8, aD 10, aD 12, aD 17, aD 18, aD 36, aD 37, aD 38, aD 41, aD 44, aI 0, aD 47, aD 49, aN, aI 0])
def G106_ : AH := hpush G105_ (oI 0 24 (fun _ => 0))
def G107_ : AH := hset G106_ 0 (oO 11 [aD 1, aD 5, aD 8, aD 10, aD 12, aD 17, aD 18, aD 36, aD 37, aD 38, aD 41, aD 44, aI 0, aD 47, aD 49, aD 51, aI 0])
def G108_ : AH := hpush G107_ (oO 12 [aI 0, aN, aI 0, aN, aN, aI 0, aN, aI 0, aI 0, aI 0, aI 0, aN, aI 0, aN, aN, aN, aI 0, aN, aN, aN, aI 0, aI 0, aI 0, aN, aN, aI 0, aN, aI 0, aN, aN, aI 0, aN, aI 0, aN, aN])
def G109_ : AH := hpush G108_ (oI 0 120 (fun _ => 0))
def G110_ : AH := hset G109_ 52 (oO 12 [aI 0, aD 53, aI 0, aN, aN, aI 0, aN, aI 0, aI 0, aI 0, aI 0, aN, aI 0, aN, aN, aN, aI 0, aN, aN, aN, aI 0, aI 0, aI 0, aN, aN, aI 0, aN, aI 0, aN, aN, aI 0, aN, aI 0, aN, aN])
def G111_ : AH := hpush G110_ (oI 0 301 (fun _ => 0))
def G112_ : AH := hset G111_ 52 (oO 12 [aI 0, aD 53, aI 0, aD 54, aN, aI 0, aN, aI 0, aI 0, aI 0, aI 0, aN, aI 0, aN, aN, aN, aI 0, aN, aN, aN, aI 0, aI 0, aI 0, aN, aN, aI 0, aN, aI 0, aN, aN, aI 0, aN, aI 0, aN, aN])
def G113_ : AH := hpush G112_ (oI 0 2408 (fun _ => 0))
def G114_ : AH := hset G113_ 52 (oO 12 [aI 0, aD 53, aI 0, aD 54, aD 55, aI 0, aN, aI 0, aI 0, aI 0, aI 0, aN, aI 0, aN, aN, aN, aI 0, aN, aN, aN, aI 0, aI 0, aI 0, aN, aN, aI 0, aN, aI 0, aN, aN, aI 0, aN, aI 0, aN, aN])
def G115_ : AH := hpush G114_ (oI 1 120 (fun _ => 0))
def G116_ : AH := hset G115_ 52 (oO 12 [aI 0, aD 53, aI 0, aD 54, aD 55, aI 0, aD 56, aI 0, aI 0, aI 0, aI 0, aN, aI 0, aN, aN, aN, aI 0, aN, aN, aN, aI 0, aI 0, aI 0, aN, aN, aI 0, aN, aI 0, aN, aN, aI 0, aN, aI 0, aN, aN])
def G117_ : AH := hpush G116_ (oI 0 244 (fun _ => 0))
def G118_ : AH := hset G117_ 52 (oO 12 [aI 0, aD 53, aI 0, aD 54, aD 55, aI 0, aD 56, aI 0, aI 0, aI 0, aI 0, aD 57, aI 0, aN, aN, aN, aI 0, aN, aN, aN, aI 0, aI 0, aI 0, aN, aN, aI 0, aN, aI 0, aN, aN, aI 0, aN, aI 0, aN, aN])
def G119_ : AH := hpush G118_ (oI 3 62 (fun _ => 0))
def G120_ : AH := hset G119_ 52 (oO 12 [aI 0, aD 53, aI 0, aD 54, aD 55, aI 0, aD 56, aI 0, aI 0, aI 0, aI 0, aD 57, aI 0, aD 58, aN, aN, aI 0, aN, aN, aN, aI 0, aI 0, aI 0, aN, aN, aI 0, aN, aI 0, aN, aN, aI 0, aN, aI 0, aN, aN])
def G121_ : AH := hpush G120_ (oI 0 62 (fun _ => 0))
def G122_ : AH := hset G121_ 52 (oO 12 [aI 0, aD 53, aI 0, aD 54, aD 55, aI 0, aD 56, aI 0, aI 0, aI 0, aI 0, aD 57, aI 0, aD 58, aD 59, aN, aI 0, aN, aN, aN, aI 0, aI 0, aI 0, aN, aN, aI 0, aN, aI 0, aN, aN, aI 0, aN, aI 0, aN, aN])
def G123_ : AH := hpush G122_ (oI 1 1200 (fun _ => 0))
def G124_ : AH := hset G123_ 52 (oO 12 [aI 0, aD 53, aI 0, aD 54, aD 55, aI 0, aD 56, aI 0, aI 0, aI 0, aI 0, aD 57, aI 0, aD 58, aD 59, aD 60, aI 0, aN, aN, aN, aI 0, aI 0, aI 0, aN, aN, aI 0, aN, aI 0, aN, aN, aI 0, aN, aI 0, aN, aN])
def G125_ : AH := hpush G124_ (oI 0 24 (fun _ => 0))
def G126_ : AH := hset G125_ 52 (oO 12 [aI 0, aD 53, aI 0, aD 54, aD 55, aI 0, aD 56, aI 0, aI 0, aI 0, aI 0, aD 57, aI 0, aD 58, aD 59, aD 60, aI 0, aD 61, aN, aN, aI 0, aI 0, aI 0, aN, aN, aI 0, aN, aI 0, aN, aN, aI 0, aN, aI 0, aN, aN])
def G127_ : AH := hpush G126_ (oI 0 24 (fun _ => 0))
def G128_ : AH := hset G127_ 52 (oO 12 [aI 0, aD 53, aI 0, aD 54, aD 55, aI 0, aD 56, aI 0, aI 0, aI 0, aI 0, aD 57, aI 0, aD 58, aD 59, aD 60, aI 0, aD 61, aD 62, aN, aI 0, aI 0, aI 0, aN, aN, aI 0, aN, aI 0, aN, aN, aI 0, aN, aI 0, aN, aN])
def G129_ : AH := hpush G128_ (oI 0 2000 (fun _ => 0))
def G130_ : AH := hset G129_ 52 (oO 12 [aI 0, aD 53, aI 0, aD 54, aD 55, aI 0, aD 56, aI 0, aI 0, aI 0, aI 0, aD 57, aI 0, aD 58, aD 59, aD 60, aI 0, aD 61, aD 62, aD 63, aI 0, aI 0, aI 0, aN, aN, aI 0, aN, aI 0, aN, aN, aI 0, aN, aI 0, aN, aN])
def G131_ : AH := hpush G130_ (oI 0 24 (fun _ => 0))
def G132_ : AH := hset G131_ 52 (oO 12 [aI 0, aD 53, aI 0, aD 54, aD 55, aI 0, aD 56, aI 0, aI 0, aI 0, aI 0, aD 57, aI 0, aD 58, aD 59, aD 60, aI 0, aD 61, aD 62, aD 63, aI 0, aI 0, aI 0, aD 64, aN, aI 0, aN, aI 0, aN, aN, aI 0, aN, aI 0, aN, aN])
def G133_ : AH := hpush G132_ (oI 0 2000 (fun _ => 0))
def G134_ : AH := hset G133_ 52 (oO 12 [aI 0, aD 53, aI 0, aD 54, aD 55, aI 0, aD 56, aI 0, aI 0, aI 0, aI 0, aD 57, aI 0, aD 58, aD 59, aD 60, aI 0, aD 61, aD 62, aD 63, aI 0, aI 0, aI 0, aD 64, aD 65, aI 0, aN, aI 0, aN, aN, aI 0, aN, aI 0, aN, aN])
def G135_ : AH := hpush G134_ (oI 0 24 (fun _ => 0))
def G136_ : AH := hset G135_ 52 (oO 12 [aI 0, aD 53, aI 0, aD 54, aD 55, aI 0, aD 56, aI 0, aI 0, aI 0, aI 0, aD 57, aI 0, aD 58, aD 59, aD 60, aI 0, aD 61, aD 62, aD 63, aI 0, aI 0, aI 0, aD 64, aD 65, aI 0, aD 66, aI 0, aN, aN, aI 0, aN, aI 0, aN, aN])
def G137_ : AH := hpush G136_ (oI 0 16 (fun _ => 0))
def G138_ : AH := hset G137_ 52 (oO 12 [aI 0, aD 53, aI 0, aD 54, aD 55, aI 0, aD 56, aI 0, aI 0, aI 0, aI 0, aD 57, aI 0, aD 58, aD 59, aD 60, aI 0, aD 61, aD 62, aD 63, aI 0, aI 0, aI 0, aD 64, aD 65, aI 0, aD 66, aI 0, aD 67, aN, aI 0, aN, aI 0, aN, aN])
def G139_ : AH := hpush G138_ (oI 0 2000 (fun _ => 0))
def G140_ : AH := hset G139_ 52 (oO 12 [aI 0, aD 53, aI 0, aD 54, aD 55, aI 0, aD 56, aI 0, aI 0, aI 0, aI 0, aD 57, aI 0, aD 58, aD 59, aD 60, aI 0, aD 61, aD 62, aD 63, aI 0, aI 0, aI 0, aD 64, aD 65, aI 0, aD 66, aI 0, aD 67, aD 68, aI 0, aN, aI 0, aN, aN])
def G141_ : AH := hpush G140_ (oI 0 120 (fun _ => 0))
def G142_ : AH := hset G141_ 52 (oO 12 [aI 0, aD 53, aI 0, aD 54, aD 55, aI 0, aD 56, aI 0, aI 0, aI 0, aI 0, aD 57, aI 0, aD 58, aD 59, aD 60, aI 0, aD 61, aD 62, aD 63, aI 0, aI 0, aI 0, aD 64, aD 65, aI 0, aD 66, aI 0, aD 67, aD 68, aI 0, aD 69, aI 0, aN, aN])
def G143_ : AH := hpush G142_ (oI 0 301 (fun _ => 0))
def G144_ : AH := hset G143_ 52 (oO 12 [aI 0, aD 53, aI 0, aD 54, aD 55, aI 0, aD 56, aI 0, aI 0, aI 0, aI 0, aD 57, aI 0, aD 58, aD 59, aD 60, aI 0, aD 61, aD 62, aD 63, aI 0, aI 0, aI 0, aD 64, aD 65, aI 0, aD 66, aI 0, aD 67, aD 68, aI 0, aD 69, aI 0, aD 70, aN])
def G145_ : AH := hpush G144_ (oI 0 24 (fun _ => 0))
def G146_ : AH := hset G145_ 52 (oO 12 [aI 0, aD 53, aI 0, aD 54, aD 55, aI 0, aD 56, aI 0, aI 0, aI 0, aI 0, aD 57, aI 0, aD 58, aD 59, aD 60, aI 0, aD 61, aD 62, aD 63, aI 0, aI 0, aI 0, aD 64, aD 65, aI 0, aD 66, aI 0, aD 67, aD 68, aI 0, aD 69, aI 0, aD 70, aD 71])
def G147_ : AH := hpush G146_ (oL 1 (fun _ => 0))
def G148_ : AH := hpush G147_ (oE 1 (fun _ => 0))
theorem cl_8 : (nI 8).toNatClampNeg = 8 := by decide
theorem cb_8 (r : Option Res) : bI (¬ (nI 8 < 0 ∨ 67108864 < 8)) r = r := bI_t (by decide) r
theorem cl_16 : (nI 16).toNatClampNeg = 16 := by decide
theorem cb_16 (r : Option Res) : bI (¬ (nI 16 < 0 ∨ 67108864 < 16)) r = r := bI_t (by decide) r
theorem cl_24 : (nI 24).toNatClampNeg = 24 := by decide
theorem cb_24 (r : Option Res) : bI (¬ (nI 24 < 0 ∨ 67108864 < 24)) r = r := bI_t (by decide) r
theorem cl_60 : (nI 60).toNatClampNeg = 60 := by decide
theorem cb_60 (r : Option Res) : bI (¬ (nI 60 < 0 ∨ 67108864 < 60)) r = r := bI_t (by decide) r
theorem cl_61 : (nI 61).toNatClampNeg = 61 := by decide
theorem cb_61 (r : Option Res) : bI (¬ (nI 61 < 0 ∨ 67108864 < 61)) r = r := bI_t (by decide) r
theorem cl_62 : (nI 62).toNatClampNeg = 62 := by decide
theorem cb_62 (r : Option Res) : bI (¬ (nI 62 < 0 ∨ 67108864 < 62)) r = r := bI_t (by decide) r
theorem cl_120 : (nI 120).toNatClampNeg = 120 := by decide
theorem cb_120 (r : Option Res) : bI (¬ (nI 120 < 0 ∨ 67108864 < 120)) r = r := bI_t (by decide) r
theorem cl_150 : (nI 150).toNatClampNeg = 150 := by decide
theorem cb_150 (r : Option Res) : bI (¬ (nI 150 < 0 ∨ 67108864 < 150)) r = r := bI_t (by decide) r
theorem cl_244 : (nI 244).toNatClampNeg = 244 := by decide
theorem cb_244 (r : Option Res) : bI (¬ (nI 244 < 0 ∨ 67108864 < 244)) r = r := bI_t (by decide) r
theorem cl_300 : (nI 300).toNatClampNeg = 300 := by decide
theorem cb_300 (r : Option Res) : bI (¬ (nI 300 < 0 ∨ 67108864 < 300)) r = r := bI_t (by decide) r
theorem cl_301 : (nI 301).toNatClampNeg = 301 := by decide
theorem cb_301 (r : Option Res) : bI (¬ (nI 301 < 0 ∨ 67108864 < 301)) r = r := bI_t (by decide) r
theorem cl_1200 : (nI 1200).toNatClampNeg = 1200 := by decide
theorem cb_1200 (r : Option Res) : bI (¬ (nI 1200 < 0 ∨ 67108864 < 1200)) r = r := bI_t (by decide) r
theorem cl_2000 : (nI 2000).toNatClampNeg = 2000 := by decide
theorem cb_2000 (r : Option Res) : bI (¬ (nI 2000 < 0 ∨ 67108864 < 2000)) r = r := bI_t (by decide) r
theorem cl_2408 : (nI 2408).toNatClampNeg = 2408 := by decide
theorem cb_2408 (r : Option Res) : bI (¬ (nI 2408 < 0 ∨ 67108864 < 2408)) r = r := bI_t (by decide) r
theorem gl0 : G0_.1.length = 0 := by rfl
theorem gf1 : hpush G0_ (oO 11 [aN, aN, aN, aN, aN, aN, aN, aN, aN, aN, aN, aN, aI 0, aN, aN, aN, aI 0]) = G1_ := by rfl
theorem gf2 : G1_.1.length = 1 := by rfl
theorem gf3 : hpush G1_ (oO 9 [aN, aI 0, aI 0, aI 0, aN]) = G2_ := by rfl
theorem gf4 : G2_.1.length = 2 := by rfl
theorem gf5 : hpush G2_ (oI 1 120 (fun _ => 0)) = G3_ := by rfl
theorem gf6 : G3_.1.length = 3 := by rfl
theorem gf7 : putF G3_ 1 9 0 3 (aD 2) = some G4_ := by rfl
theorem gf8 : G4_.1.length = 3 := by rfl
theorem gf9 : hpush G4_ (oO 8 [aN, aI 0]) = G5_ := by rfl
theorem gf10 : G5_.1.length = 4 := by rfl
theorem gf11 : hpush G5_ (oI 0 150 (fun _ => 0)) = G6_ := by rfl
theorem gf12 : G6_.1.length = 5 := by rfl
theorem gf13 : putF G6_ 3 8 0 3 (aD 4) = some G7_ := by rfl
theorem gf14 : G7_.1.length = 5 := by rfl
theorem gc0 (sc : SC) : Call sc n_X6_init [aD 3, aI (nI 30)] G5_ = some (.inl none, G7_) := by
  rw [c0_X6_init, e_X6_init_0, show nI 30 * nI 5 = nI 150 by decide, cl_150, cb_150, gf10, gf11, e_X6_init_10, gf13, bO_some, e_X6_init_13]
theorem gf15 : putF G7_ 1 9 4 3 (aD 3) = some G8_ := by rfl
theorem gf16 : G8_.1.length = 5 := by rfl
theorem gc1 (sc : SC) : Call sc n_X7_init [aD 1] G2_ = some (.inl none, G8_) := by
  rw [c0_X7_init, e_X7_init_0, cl_120, cb_120, gf4, gf5, e_X7_init_9, gf7, bO_some, e_X7_init_12, gf8, gf9, gc0, bC_v, tl0, e_X7_init_22, gf15, bO_some, e_X7_init_25]
theorem gf17 : putF G8_ 0 11 0 3 (aD 1) = some G9_ := by rfl
theorem gf18 : G9_.1.length = 5 := by rfl
theorem gf19 : hpush G9_ (oO 10 [aN]) = G10_ := by rfl
theorem gf20 : G10_.1.length = 6 := by rfl
theorem gf21 : hpush G10_ (oO 1 [aN, aI 0, aI 0, aI 0]) = G11_ := by rfl
theorem gf22 : G11_.1.length = 7 := by rfl
theorem gf23 : hpush G11_ (oI 2 16 (fun _ => 0)) = G12_ := by rfl
theorem gf24 : G12_.1.length = 8 := by rfl
theorem gf25 : putF G12_ 6 1 0 3 (aD 7) = some G13_ := by rfl
theorem gf26 : G13_.1.length = 8 := by rfl
theorem gf27 : putF G13_ 6 1 1 2 (aI (nI 0)) = some G14_ := by rfl
theorem gf28 : G14_.1.length = 8 := by rfl
theorem gc2 (sc : SC) : Call sc n_J5_init_d00df [aD 6, aI (nI 16)] G11_ = some (.inl none, G14_) := by
  rw [c0_J5_init_d00df, e_J5_init_d00df_0, if_neg (show ¬ nI 1 = 0 by decide), e_J5_init_d00df_10, cl_16, cb_16, gf22, gf23, e_J5_init_d00df_14, gf25, bO_some, e_J5_init_d00df_17, gf27, bO_some, e_J5_init_d00df_22]
theorem gc3 (sc : SC) : Call sc n_J4_init_da8c8 [aD 6] G11_ = some (.inl none, G14_) := by
  rw [c0_J4_init_da8c8, e_J4_init_da8c8_0, gc2, bC_v, tl0, e_J4_init_da8c8_6]
theorem gf29 : putF G14_ 5 10 0 3 (aD 6) = some G15_ := by rfl
theorem gf30 : G15_.1.length = 8 := by rfl
theorem gc4 (sc : SC) : Call sc n_X8_init [aD 5] G10_ = some (.inl none, G15_) := by
  rw [c0_X8_init, e_X8_init_0, gf20, gf21, gc3, bC_v, tl0, e_X8_init_12, gf29, bO_some, e_X8_init_15]
theorem gf31 : putF G15_ 0 11 1 3 (aD 5) = some G16_ := by rfl
theorem gf32 : G16_.1.length = 8 := by rfl
theorem gf33 : hpush G16_ (oO 8 [aN, aI 0]) = G17_ := by rfl
theorem gf34 : G17_.1.length = 9 := by rfl
theorem gf35 : hpush G17_ (oI 0 150 (fun _ => 0)) = G18_ := by rfl
theorem gf36 : G18_.1.length = 10 := by rfl
theorem gf37 : putF G18_ 8 8 0 3 (aD 9) = some G19_ := by rfl
theorem gf38 : G19_.1.length = 10 := by rfl
theorem gc5 (sc : SC) : Call sc n_X6_init [aD 8, aI (nI 30)] G17_ = some (.inl none, G19_) := by
  rw [c0_X6_init, e_X6_init_0, show nI 30 * nI 5 = nI 150 by decide, cl_150, cb_150, gf34, gf35, e_X6_init_10, gf37, bO_some, e_X6_init_13]
theorem gf39 : putF G19_ 0 11 2 3 (aD 8) = some G20_ := by rfl
theorem gf40 : G20_.1.length = 10 := by rfl
theorem gf41 : hpush G20_ (oO 8 [aN, aI 0]) = G21_ := by rfl
theorem gf42 : G21_.1.length = 11 := by rfl
theorem gf43 : hpush G21_ (oI 0 300 (fun _ => 0)) = G22_ := by rfl
theorem gf44 : G22_.1.length = 12 := by rfl
theorem gf45 : putF G22_ 10 8 0 3 (aD 11) = some G23_ := by rfl
theorem gf46 : G23_.1.length = 12 := by rfl
theorem gc6 (sc : SC) : Call sc n_X6_init [aD 10, aI (nI 60)] G21_ = some (.inl none, G23_) := by
  rw [c0_X6_init, e_X6_init_0, show nI 60 * nI 5 = nI 300 by decide, cl_300, cb_300, gf42, gf43, e_X6_init_10, gf45, bO_some, e_X6_init_13]
theorem gf47 : putF G23_ 0 11 3 3 (aD 10) = some G24_ := by rfl
theorem gf48 : G24_.1.length = 12 := by rfl
theorem gf49 : hpush G24_ (oO 5 [aN, aN, aN, aN, aN]) = G25_ := by rfl
theorem gf50 : G25_.1.length = 13 := by rfl
theorem gf51 (sc : SC) : getF sc G25_ (aD 0) 11 3 = some (aD 10) := by rfl
theorem gf52 : hpush G25_ (oI 0 61 (fun _ => 0)) = G26_ := by rfl
theorem gf53 : G26_.1.length = 14 := by rfl
theorem gf54 : putF G26_ 12 5 1 3 (aD 13) = some G27_ := by rfl
theorem gf55 : G27_.1.length = 14 := by rfl
theorem gf56 : hpush G27_ (oI 0 60 (fun _ => 0)) = G28_ := by rfl
theorem gf57 : G28_.1.length = 15 := by rfl
theorem gf58 : putF G28_ 12 5 2 3 (aD 14) = some G29_ := by rfl
theorem gf59 : G29_.1.length = 15 := by rfl
theorem gf60 : hpush G29_ (oI 0 60 (fun _ => 0)) = G30_ := by rfl
theorem gf61 : G30_.1.length = 16 := by rfl
theorem gf62 : putF G30_ 12 5 3 3 (aD 15) = some G31_ := by rfl
theorem gf63 : G31_.1.length = 16 := by rfl
theorem gf64 : hpush G31_ (oI 3 61 (fun _ => 0)) = G32_ := by rfl
theorem gf65 : G32_.1.length = 17 := by rfl
theorem gf66 : putF G32_ 12 5 4 3 (aD 16) = some G33_ := by rfl
theorem gf67 : G33_.1.length = 17 := by rfl
theorem gf68 : putF G33_ 12 5 0 3 (aD 10) = some G34_ := by rfl
theorem gf69 : G34_.1.length = 17 := by rfl
theorem gc7 (sc : SC) : Call sc n_X2_init [aD 12, aD 10] G25_ = some (.inl none, G34_) := by
  rw [c0_X2_init, e_X2_init_0, cl_61, cb_61, gf50, gf52, e_X2_init_9, gf54, bO_some, e_X2_init_12, cl_60, cb_60, gf55, gf56, e_X2_init_17, gf58, bO_some, e_X2_init_20, cl_60, cb_60, gf59, gf60, e_X2_init_25, gf62, bO_some, e_X2_init_28, cl_61, cb_61, gf63, gf64, e_X2_init_33, gf66, bO_some, e_X2_init_36, gf68, bO_some, e_X2_init_41]
theorem gf70 : putF G34_ 0 11 4 3 (aD 12) = some G35_ := by rfl
theorem gf71 : G35_.1.length = 17 := by rfl
theorem gf72 : hpush G35_ (oO 4 [aN, aN]) = G36_ := by rfl
theorem gf73 : G36_.1.length = 18 := by rfl
theorem gf74 (sc : SC) : getF sc G36_ (aD 0) 11 3 = some (aD 10) := by rfl
theorem gf75 (sc : SC) : getF sc G36_ (aD 0) 11 4 = some (aD 12) := by rfl
theorem gf76 : putF G36_ 17 4 0 3 (aD 10) = some G37_ := by rfl
theorem gf77 : G37_.1.length = 18 := by rfl
theorem gf78 : putF G37_ 17 4 1 3 (aD 12) = some G38_ := by rfl
theorem gf79 : G38_.1.length = 18 := by rfl
theorem gc8 (sc : SC) : Call sc n_X1_init [aD 17, aD 10, aD 12] G36_ = some (.inl none, G38_) := by
  rw [c0_X1_init, e_X1_init_0, gf76, bO_some, e_X1_init_9, gf78, bO_some, e_X1_init_14]
theorem gf80 : putF G38_ 0 11 5 3 (aD 17) = some G39_ := by rfl
theorem gf81 : G39_.1.length = 18 := by rfl
theorem gf82 : hpush G39_ (oO 6 [aN, aI 0, aI 0]) = G40_ := by rfl
theorem gf83 : G40_.1.length = 19 := by rfl
theorem gf84 : hpush G40_ (oR 8 (fun _ => aN)) = G41_ := by rfl
theorem gf85 : G41_.1.length = 20 := by rfl
theorem gf86 : putF G41_ 18 6 0 3 (aD 19) = some G42_ := by rfl
theorem gf87 : G42_.1.length = 20 := by rfl
theorem gf88 (sc : SC) : getF sc G42_ (aD 18) 6 0 = some (aD 19) := by rfl
theorem gf89 (sc : SC) : lenA sc G42_ (aD 19) = some 8 := by rfl
theorem gf90 (sc : SC) : getF sc G42_ (aD 18) 6 0 = some (aD 19) := by rfl
theorem gf91 : hpush G42_ (oO 8 [aN, aI 0]) = G43_ := by rfl
theorem gf92 : G43_.1.length = 21 := by rfl
theorem gf93 : hpush G43_ (oI 0 300 (fun _ => 0)) = G44_ := by rfl
theorem gf94 : G44_.1.length = 22 := by rfl
theorem gf95 : putF G44_ 20 8 0 3 (aD 21) = some G45_ := by rfl
theorem gf96 : G45_.1.length = 22 := by rfl
theorem gc9 (sc : SC) : Call sc n_X6_init [aD 20, aI (nI 60)] G43_ = some (.inl none, G45_) := by
  rw [c0_X6_init, e_X6_init_0, show nI 60 * nI 5 = nI 300 by decide, cl_300, cb_300, gf92, gf93, e_X6_init_10, gf95, bO_some, e_X6_init_13]
theorem gf97 : stR G45_ 19 (nI 0) (aD 20) = some G46_ := by rfl
theorem gf98 : G46_.1.length = 22 := by rfl
theorem gf99 (sc : SC) : getF sc G46_ (aD 18) 6 0 = some (aD 19) := by rfl
theorem gf100 (sc : SC) : lenA sc G46_ (aD 19) = some 8 := by rfl
theorem gf101 (sc : SC) : getF sc G46_ (aD 18) 6 0 = some (aD 19) := by rfl
theorem gf102 : hpush G46_ (oO 8 [aN, aI 0]) = G47_ := by rfl
theorem gf103 : G47_.1.length = 23 := by rfl
theorem gf104 : hpush G47_ (oI 0 300 (fun _ => 0)) = G48_ := by rfl
theorem gf105 : G48_.1.length = 24 := by rfl
theorem gf106 : putF G48_ 22 8 0 3 (aD 23) = some G49_ := by rfl
theorem gf107 : G49_.1.length = 24 := by rfl
theorem gc10 (sc : SC) : Call sc n_X6_init [aD 22, aI (nI 60)] G47_ = some (.inl none, G49_) := by
  rw [c0_X6_init, e_X6_init_0, show nI 60 * nI 5 = nI 300 by decide, cl_300, cb_300, gf103, gf104, e_X6_init_10, gf106, bO_some, e_X6_init_13]
theorem gf108 : stR G49_ 19 (nI 1) (aD 22) = some G50_ := by rfl
theorem gf109 : G50_.1.length = 24 := by rfl
theorem gf110 (sc : SC) : getF sc G50_ (aD 18) 6 0 = some (aD 19) := by rfl
theorem gf111 (sc : SC) : lenA sc G50_ (aD 19) = some 8 := by rfl
theorem gf112 (sc : SC) : getF sc G50_ (aD 18) 6 0 = some (aD 19) := by rfl
theorem gf113 : hpush G50_ (oO 8 [aN, aI 0]) = G51_ := by rfl
theorem gf114 : G51_.1.length = 25 := by rfl
theorem gf115 : hpush G51_ (oI 0 300 (fun _ => 0)) = G52_ := by rfl
theorem gf116 : G52_.1.length = 26 := by rfl
theorem gf117 : putF G52_ 24 8 0 3 (aD 25) = some G53_ := by rfl
theorem gf118 : G53_.1.length = 26 := by rfl
theorem gc11 (sc : SC) : Call sc n_X6_init [aD 24, aI (nI 60)] G51_ = some (.inl none, G53_) := by
  rw [c0_X6_init, e_X6_init_0, show nI 60 * nI 5 = nI 300 by decide, cl_300, cb_300, gf114, gf115, e_X6_init_10, gf117, bO_some, e_X6_init_13]
theorem gf119 : stR G53_ 19 (nI 2) (aD 24) = some G54_ := by rfl
theorem gf120 : G54_.1.length = 26 := by rfl
theorem gf121 (sc : SC) : getF sc G54_ (aD 18) 6 0 = some (aD 19) := by rfl
theorem gf122 (sc : SC) : lenA sc G54_ (aD 19) = some 8 := by rfl
theorem gf123 (sc : SC) : getF sc G54_ (aD 18) 6 0 = some (aD 19) := by rfl
theorem gf124 : hpush G54_ (oO 8 [aN, aI 0]) = G55_ := by rfl
theorem gf125 : G55_.1.length = 27 := by rfl
theorem gf126 : hpush G55_ (oI 0 300 (fun _ => 0)) = G56_ := by rfl
theorem gf127 : G56_.1.length = 28 := by rfl
theorem gf128 : putF G56_ 26 8 0 3 (aD 27) = some G57_ := by rfl
theorem gf129 : G57_.1.length = 28 := by rfl
theorem gc12 (sc : SC) : Call sc n_X6_init [aD 26, aI (nI 60)] G55_ = some (.inl none, G57_) := by
  rw [c0_X6_init, e_X6_init_0, show nI 60 * nI 5 = nI 300 by decide, cl_300, cb_300, gf125, gf126, e_X6_init_10, gf128, bO_some, e_X6_init_13]
theorem gf130 : stR G57_ 19 (nI 3) (aD 26) = some G58_ := by rfl
theorem gf131 : G58_.1.length = 28 := by rfl
theorem gf132 (sc : SC) : getF sc G58_ (aD 18) 6 0 = some (aD 19) := by rfl
theorem gf133 (sc : SC) : lenA sc G58_ (aD 19) = some 8 := by rfl
theorem gf134 (sc : SC) : getF sc G58_ (aD 18) 6 0 = some (aD 19) := by rfl
theorem gf135 : hpush G58_ (oO 8 [aN, aI 0]) = G59_ := by rfl
theorem gf136 : G59_.1.length = 29 := by rfl
theorem gf137 : hpush G59_ (oI 0 300 (fun _ => 0)) = G60_ := by rfl
theorem gf138 : G60_.1.length = 30 := by rfl
theorem gf139 : putF G60_ 28 8 0 3 (aD 29) = some G61_ := by rfl
theorem gf140 : G61_.1.length = 30 := by rfl
theorem gc13 (sc : SC) : Call sc n_X6_init [aD 28, aI (nI 60)] G59_ = some (.inl none, G61_) := by
  rw [c0_X6_init, e_X6_init_0, show nI 60 * nI 5 = nI 300 by decide, cl_300, cb_300, gf136, gf137, e_X6_init_10, gf139, bO_some, e_X6_init_13]
theorem gf141 : stR G61_ 19 (nI 4) (aD 28) = some G62_ := by rfl
theorem gf142 : G62_.1.length = 30 := by rfl
theorem gf143 (sc : SC) : getF sc G62_ (aD 18) 6 0 = some (aD 19) := by rfl
theorem gf144 (sc : SC) : lenA sc G62_ (aD 19) = some 8 := by rfl
theorem gf145 (sc : SC) : getF sc G62_ (aD 18) 6 0 = some (aD 19) := by rfl
theorem gf146 : hpush G62_ (oO 8 [aN, aI 0]) = G63_ := by rfl
theorem gf147 : G63_.1.length = 31 := by rfl
theorem gf148 : hpush G63_ (oI 0 300 (fun _ => 0)) = G64_ := by rfl
theorem gf149 : G64_.1.length = 32 := by rfl
theorem gf150 : putF G64_ 30 8 0 3 (aD 31) = some G65_ := by rfl
theorem gf151 : G65_.1.length = 32 := by rfl
theorem gc14 (sc : SC) : Call sc n_X6_init [aD 30, aI (nI 60)] G63_ = some (.inl none, G65_) := by
  rw [c0_X6_init, e_X6_init_0, show nI 60 * nI 5 = nI 300 by decide, cl_300, cb_300, gf147, gf148, e_X6_init_10, gf150, bO_some, e_X6_init_13]
theorem gf152 : stR G65_ 19 (nI 5) (aD 30) = some G66_ := by rfl
theorem gf153 : G66_.1.length = 32 := by rfl
theorem gf154 (sc : SC) : getF sc G66_ (aD 18) 6 0 = some (aD 19) := by rfl
theorem gf155 (sc : SC) : lenA sc G66_ (aD 19) = some 8 := by rfl
theorem gf156 (sc : SC) : getF sc G66_ (aD 18) 6 0 = some (aD 19) := by rfl
theorem gf157 : hpush G66_ (oO 8 [aN, aI 0]) = G67_ := by rfl
theorem gf158 : G67_.1.length = 33 := by rfl
theorem gf159 : hpush G67_ (oI 0 300 (fun _ => 0)) = G68_ := by rfl
theorem gf160 : G68_.1.length = 34 := by rfl
theorem gf161 : putF G68_ 32 8 0 3 (aD 33) = some G69_ := by rfl
theorem gf162 : G69_.1.length = 34 := by rfl
theorem gc15 (sc : SC) : Call sc n_X6_init [aD 32, aI (nI 60)] G67_ = some (.inl none, G69_) := by
  rw [c0_X6_init, e_X6_init_0, show nI 60 * nI 5 = nI 300 by decide, cl_300, cb_300, gf158, gf159, e_X6_init_10, gf161, bO_some, e_X6_init_13]
theorem gf163 : stR G69_ 19 (nI 6) (aD 32) = some G70_ := by rfl
theorem gf164 : G70_.1.length = 34 := by rfl
theorem gf165 (sc : SC) : getF sc G70_ (aD 18) 6 0 = some (aD 19) := by rfl
theorem gf166 (sc : SC) : lenA sc G70_ (aD 19) = some 8 := by rfl
theorem gf167 (sc : SC) : getF sc G70_ (aD 18) 6 0 = some (aD 19) := by rfl
theorem gf168 : hpush G70_ (oO 8 [aN, aI 0]) = G71_ := by rfl
theorem gf169 : G71_.1.length = 35 := by rfl
theorem gf170 : hpush G71_ (oI 0 300 (fun _ => 0)) = G72_ := by rfl
theorem gf171 : G72_.1.length = 36 := by rfl
theorem gf172 : putF G72_ 34 8 0 3 (aD 35) = some G73_ := by rfl
theorem gf173 : G73_.1.length = 36 := by rfl
theorem gc16 (sc : SC) : Call sc n_X6_init [aD 34, aI (nI 60)] G71_ = some (.inl none, G73_) := by
  rw [c0_X6_init, e_X6_init_0, show nI 60 * nI 5 = nI 300 by decide, cl_300, cb_300, gf169, gf170, e_X6_init_10, gf172, bO_some, e_X6_init_13]
theorem gf174 : stR G73_ 19 (nI 7) (aD 34) = some G74_ := by rfl
theorem gf175 : G74_.1.length = 36 := by rfl
theorem gf176 (sc : SC) : getF sc G74_ (aD 18) 6 0 = some (aD 19) := by rfl
theorem gf177 (sc : SC) : lenA sc G74_ (aD 19) = some 8 := by rfl
theorem gc17 (sc : SC) : Call sc n_X3_init [aD 18] G40_ = some (.inl none, G74_) := by
  rw [c0_X3_init, e_X3_init_0, cl_8, cb_8, gf83, gf84, e_X3_init_10, gf86, bO_some, e_X3_init_13, e_X3_init_15, gf88, bF_D, e_X3_init_20, gf89, bO_some, e_X3_init_21, if_neg (show ¬ nI 8 ≤ nI 0 by decide), e_X3_init_24, gf90, bF_D, e_X3_init_28, gf87, gf91, gc9, bC_v, tl0, e_X3_init_38, gf97, bO_some, e_X3_init_39, show nI 0 + nI 1 = nI 1 by decide, e_X3_init_15, gf99, bF_D, e_X3_init_20, gf100, bO_some, e_X3_init_21, if_neg (show ¬ nI 8 ≤ nI 1 by decide), e_X3_init_24, gf101, bF_D, e_X3_init_28, gf98, gf102, gc10, bC_v, tl0, e_X3_init_38, gf108, bO_some, e_X3_init_39, show nI 1 + nI 1 = nI 2 by decide, e_X3_init_15, gf110, bF_D, e_X3_init_20, gf111, bO_some, e_X3_init_21, if_neg (show ¬ nI 8 ≤ nI 2 by decide), e_X3_init_24, gf112, bF_D, e_X3_init_28, gf109, gf113, gc11, bC_v, tl0, e_X3_init_38, gf119, bO_some, e_X3_init_39, show nI 2 + nI 1 = nI 3 by decide, e_X3_init_15, gf121, bF_D, e_X3_init_20, gf122, bO_some, e_X3_init_21, if_neg (show ¬ nI 8 ≤ nI 3 by decide), e_X3_init_24, gf123, bF_D, e_X3_init_28, gf120, gf124, gc12, bC_v, tl0, e_X3_init_38, gf130, bO_some, e_X3_init_39, show nI 3 + nI 1 = nI 4 by decide, e_X3_init_15, gf132, bF_D, e_X3_init_20, gf133, bO_some, e_X3_init_21, if_neg (show ¬ nI 8 ≤ nI 4 by decide), e_X3_init_24, gf134, bF_D, e_X3_init_28, gf131, gf135, gc13, bC_v, tl0, e_X3_init_38, gf141, bO_some, e_X3_init_39, show nI 4 + nI 1 = nI 5 by decide, e_X3_init_15, gf143, bF_D, e_X3_init_20, gf144, bO_some, e_X3_init_21, if_neg (show ¬ nI 8 ≤ nI 5 by decide), e_X3_init_24, gf145, bF_D, e_X3_init_28, gf142, gf146, gc14, bC_v, tl0, e_X3_init_38, gf152, bO_some, e_X3_init_39, show nI 5 + nI 1 = nI 6 by decide, e_X3_init_15, gf154, bF_D, e_X3_init_20, gf155, bO_some, e_X3_init_21, if_neg (show ¬ nI 8 ≤ nI 6 by decide), e_X3_init_24, gf156, bF_D, e_X3_init_28, gf153, gf157, gc15, bC_v, tl0, e_X3_init_38, gf163, bO_some, e_X3_init_39, show nI 6 + nI 1 = nI 7 by decide, e_X3_init_15, gf165, bF_D, e_X3_init_20, gf166, bO_some, e_X3_init_21, if_neg (show ¬ nI 8 ≤ nI 7 by decide), e_X3_init_24, gf167, bF_D, e_X3_init_28, gf164, gf168, gc16, bC_v, tl0, e_X3_init_38, gf174, bO_some, e_X3_init_39, show nI 7 + nI 1 = nI 8 by decide, e_X3_init_15, gf176, bF_D, e_X3_init_20, gf177, bO_some, e_X3_init_21, if_pos (show nI 8 ≤ nI 8 by decide), e_X3_init_45]
theorem gf178 : putF G74_ 0 11 6 3 (aD 18) = some G75_ := by rfl
theorem gf179 : G75_.1.length = 36 := by rfl
theorem gf180 : hpush G75_ (oI 0 24 (fun _ => 0)) = G76_ := by rfl
theorem gf181 : G76_.1.length = 37 := by rfl
theorem gf182 : putF G76_ 0 11 7 3 (aD 36) = some G77_ := by rfl
theorem gf183 : G77_.1.length = 37 := by rfl
theorem gf184 : hpush G77_ (oI 0 24 (fun _ => 0)) = G78_ := by rfl
theorem gf185 : G78_.1.length = 38 := by rfl
theorem gf186 : putF G78_ 0 11 8 3 (aD 37) = some G79_ := by rfl
theorem gf187 : G79_.1.length = 38 := by rfl
theorem gf188 : hpush G79_ (oO 7 [aN, aN, aI 0, aI 0]) = G80_ := by rfl
theorem gf189 : G80_.1.length = 39 := by rfl
theorem gf190 : hpush G80_ (oI 0 24 (fun _ => 0)) = G81_ := by rfl
theorem gf191 : G81_.1.length = 40 := by rfl
theorem gf192 : putF G81_ 38 7 0 3 (aD 39) = some G82_ := by rfl
theorem gf193 : G82_.1.length = 40 := by rfl
theorem gf194 : hpush G82_ (oI 0 2000 (fun _ => 0)) = G83_ := by rfl
theorem gf195 : G83_.1.length = 41 := by rfl
theorem gf196 : putF G83_ 38 7 1 3 (aD 40) = some G84_ := by rfl
theorem gf197 : G84_.1.length = 41 := by rfl
theorem gc18 (sc : SC) : Call sc n_X5_init [aD 38, aI (nI 2000)] G80_ = some (.inl none, G84_) := by
  rw [c0_X5_init, e_X5_init_0, cl_24, cb_24, gf189, gf190, e_X5_init_9, gf192, bO_some, e_X5_init_12, cl_2000, cb_2000, gf193, gf194, e_X5_init_16, gf196, bO_some, e_X5_init_19]
theorem gf198 : putF G84_ 0 11 9 3 (aD 38) = some G85_ := by rfl
theorem gf199 : G85_.1.length = 41 := by rfl
theorem gf200 : hpush G85_ (oO 7 [aN, aN, aI 0, aI 0]) = G86_ := by rfl
theorem gf201 : G86_.1.length = 42 := by rfl
theorem gf202 : hpush G86_ (oI 0 24 (fun _ => 0)) = G87_ := by rfl
theorem gf203 : G87_.1.length = 43 := by rfl
theorem gf204 : putF G87_ 41 7 0 3 (aD 42) = some G88_ := by rfl
theorem gf205 : G88_.1.length = 43 := by rfl
theorem gf206 : hpush G88_ (oI 0 2000 (fun _ => 0)) = G89_ := by rfl
theorem gf207 : G89_.1.length = 44 := by rfl
theorem gf208 : putF G89_ 41 7 1 3 (aD 43) = some G90_ := by rfl
theorem gf209 : G90_.1.length = 44 := by rfl
theorem gc19 (sc : SC) : Call sc n_X5_init [aD 41, aI (nI 2000)] G86_ = some (.inl none, G90_) := by
  rw [c0_X5_init, e_X5_init_0, cl_24, cb_24, gf201, gf202, e_X5_init_9, gf204, bO_some, e_X5_init_12, cl_2000, cb_2000, gf205, gf206, e_X5_init_16, gf208, bO_some, e_X5_init_19]
theorem gf210 : putF G90_ 0 11 10 3 (aD 41) = some G91_ := by rfl
theorem gf211 : G91_.1.length = 44 := by rfl
theorem gf212 : hpush G91_ (oO 7 [aN, aN, aI 0, aI 0]) = G92_ := by rfl
theorem gf213 : G92_.1.length = 45 := by rfl
theorem gf214 : hpush G92_ (oI 0 24 (fun _ => 0)) = G93_ := by rfl
theorem gf215 : G93_.1.length = 46 := by rfl
theorem gf216 : putF G93_ 44 7 0 3 (aD 45) = some G94_ := by rfl
theorem gf217 : G94_.1.length = 46 := by rfl
theorem gf218 : hpush G94_ (oI 0 300 (fun _ => 0)) = G95_ := by rfl
theorem gf219 : G95_.1.length = 47 := by rfl
theorem gf220 : putF G95_ 44 7 1 3 (aD 46) = some G96_ := by rfl
theorem gf221 : G96_.1.length = 47 := by rfl
theorem gc20 (sc : SC) : Call sc n_X5_init [aD 44, aI (nI 300)] G92_ = some (.inl none, G96_) := by
  rw [c0_X5_init, e_X5_init_0, cl_24, cb_24, gf213, gf214, e_X5_init_9, gf216, bO_some, e_X5_init_12, cl_300, cb_300, gf217, gf218, e_X5_init_16, gf220, bO_some, e_X5_init_19]
theorem gf222 : putF G96_ 0 11 11 3 (aD 44) = some G97_ := by rfl
theorem gf223 : G97_.1.length = 47 := by rfl
theorem gf224 : hpush G97_ (oO 8 [aN, aI 0]) = G98_ := by rfl
theorem gf225 : G98_.1.length = 48 := by rfl
theorem gf226 : hpush G98_ (oI 0 150 (fun _ => 0)) = G99_ := by rfl
theorem gf227 : G99_.1.length = 49 := by rfl
theorem gf228 : putF G99_ 47 8 0 3 (aD 48) = some G100_ := by rfl
theorem gf229 : G100_.1.length = 49 := by rfl
theorem gc21 (sc : SC) : Call sc n_X6_init [aD 47, aI (nI 30)] G98_ = some (.inl none, G100_) := by
  rw [c0_X6_init, e_X6_init_0, show nI 30 * nI 5 = nI 150 by decide, cl_150, cb_150, gf225, gf226, e_X6_init_10, gf228, bO_some, e_X6_init_13]
theorem gf230 : putF G100_ 0 11 13 3 (aD 47) = some G101_ := by rfl
theorem gf231 : G101_.1.length = 49 := by rfl
theorem gf232 : hpush G101_ (oO 8 [aN, aI 0]) = G102_ := by rfl
theorem gf233 : G102_.1.length = 50 := by rfl
theorem gf234 : hpush G102_ (oI 0 300 (fun _ => 0)) = G103_ := by rfl
theorem gf235 : G103_.1.length = 51 := by rfl
theorem gf236 : putF G103_ 49 8 0 3 (aD 50) = some G104_ := by rfl
theorem gf237 : G104_.1.length = 51 := by rfl
theorem gc22 (sc : SC) : Call sc n_X6_init [aD 49, aI (nI 60)] G102_ = some (.inl none, G104_) := by
  rw [c0_X6_init, e_X6_init_0, show nI 60 * nI 5 = nI 300 by decide, cl_300, cb_300, gf233, gf234, e_X6_init_10, gf236, bO_some, e_X6_init_13]
theorem gf238 : putF G104_ 0 11 14 3 (aD 49) = some G105_ := by rfl
theorem gf239 : G105_.1.length = 51 := by rfl
theorem gf240 : hpush G105_ (oI 0 24 (fun _ => 0)) = G106_ := by rfl
theorem gf241 : G106_.1.length = 52 := by rfl
theorem gf242 : putF G106_ 0 11 15 3 (aD 51) = some G107_ := by rfl
theorem gf243 : G107_.1.length = 52 := by rfl
theorem gc23 (sc : SC) : Call sc n_X9_init [aD 0] G1_ = some (.inl none, G107_) := by
  rw [c0_X9_init, e_X9_init_0, gf2, gf3, gc1, bC_v, tl0, e_X9_init_12, gf17, bO_some, e_X9_init_15, gf18, gf19, gc4, bC_v, tl0, e_X9_init_23, gf31, bO_some, e_X9_init_26, gf32, gf33, gc5, bC_v, tl0, e_X9_init_36, gf39, bO_some, e_X9_init_39, gf40, gf41, gc6, bC_v, tl0, e_X9_init_49, gf47, bO_some, e_X9_init_52, gf48, gf49, gf51, bF_D, e_X9_init_61, gc7, bC_v, tl0, e_X9_init_64, gf70, bO_some, e_X9_init_67, gf71, gf72, gf74, bF_D, e_X9_init_76, gf75, bF_D, e_X9_init_80, gc8, bC_v, tl0, e_X9_init_83, gf80, bO_some, e_X9_init_86, gf81, gf82, gc17, bC_v, tl0, e_X9_init_94, gf178, bO_some, e_X9_init_97, cl_24, cb_24, gf179, gf180, e_X9_init_102, gf182, bO_some, e_X9_init_105, cl_24, cb_24, gf183, gf184, e_X9_init_110, gf186, bO_some, e_X9_init_113, gf187, gf188, gc18, bC_v, tl0, e_X9_init_124, gf198, bO_some, e_X9_init_127, gf199, gf200, gc19, bC_v, tl0, e_X9_init_138, gf210, bO_some, e_X9_init_141, gf211, gf212, gc20, bC_v, tl0, e_X9_init_152, gf222, bO_some, e_X9_init_155, gf223, gf224, gc21, bC_v, tl0, e_X9_init_165, gf230, bO_some, e_X9_init_168, gf231, gf232, gc22, bC_v, tl0, e_X9_init_178, gf238, bO_some, e_X9_init_181, cl_24, cb_24, gf239, gf240, e_X9_init_186, gf242, bO_some, e_X9_init_189]
theorem gf244 : hpush G107_ (oO 12 [aI 0, aN, aI 0, aN, aN, aI 0, aN, aI 0, aI 0, aI 0, aI 0, aN, aI 0, aN, aN, aN, aI 0, aN, aN, aN, aI 0, aI 0, aI 0, aN, aN, aI 0, aN, aI 0, aN, aN, aI 0, aN, aI 0, aN, aN]) = G108_ := by rfl
theorem gf245 : G108_.1.length = 53 := by rw [show G108_ = hpush G107_ (oO 12 [aI 0, aN, aI 0, aN, aN, aI 0, aN, aI 0, aI 0, aI 0, aI 0, aN, aI 0, aN, aN, aN, aI 0, aN, aN, aN, aI 0, aI 0, aI 0, aN, aN, aI 0, aN, aI 0, aN, aN, aI 0, aN, aI 0, aN, aN]) from rfl, push_len, gf243]
theorem gf246 : hget G108_ 52 = some (oO 12 [aI 0, aN, aI 0, aN, aN, aI 0, aN, aI 0, aI 0, aI 0, aI 0, aN, aI 0, aN, aN, aN, aI 0, aN, aN, aN, aI 0, aI 0, aI 0, aN, aN, aI 0, aN, aI 0, aN, aN, aI 0, aN, aI 0, aN, aN]) := by rw [show G108_ = hpush G107_ (oO 12 [aI 0, aN, aI 0, aN, aN, aI 0, aN, aI 0, aI 0, aI 0, aI 0, aN, aI 0, aN, aN, aN, aI 0, aN, aN, aN, aI 0, aI 0, aI 0, aN, aN, aI 0, aN, aI 0, aN, aN, aI 0, aN, aI 0, aN, aN]) from rfl, ← gf243]; exact hget_new
theorem gf247 : hpush G108_ (oI 0 120 (fun _ => 0)) = G109_ := by rfl
theorem gf248 : G109_.1.length = 54 := by rw [show G109_ = hpush G108_ (oI 0 120 (fun _ => 0)) from rfl, push_len, gf245]
theorem gf249 : hget G109_ 52 = some (oO 12 [aI 0, aN, aI 0, aN, aN, aI 0, aN, aI 0, aI 0, aI 0, aI 0, aN, aI 0, aN, aN, aN, aI 0, aN, aN, aN, aI 0, aI 0, aI 0, aN, aN, aI 0, aN, aI 0, aN, aN, aI 0, aN, aI 0, aN, aN]) := (hget_push (show 52 < G108_.1.length by rw [gf245]; omega)).trans gf246
set_option maxRecDepth 8000 in
theorem gf250 : putF G109_ 52 12 1 3 (aD 53) = some G110_ := putF_D gf249 (show 1 < 35 by decide) rfl
theorem gf251 : G110_.1.length = 54 := by rw [show G110_ = hset G109_ 52 (oO 12 [aI 0, aD 53, aI 0, aN, aN, aI 0, aN, aI 0, aI 0, aI 0, aI 0, aN, aI 0, aN, aN, aN, aI 0, aN, aN, aN, aI 0, aI 0, aI 0, aN, aN, aI 0, aN, aI 0, aN, aN, aI 0, aN, aI 0, aN, aN]) from rfl, hset_len, gf248]
theorem gf252 : hget G110_ 52 = some (oO 12 [aI 0, aD 53, aI 0, aN, aN, aI 0, aN, aI 0, aI 0, aI 0, aI 0, aN, aI 0, aN, aN, aN, aI 0, aN, aN, aN, aI 0, aI 0, aI 0, aN, aN, aI 0, aN, aI 0, aN, aN, aI 0, aN, aI 0, aN, aN]) := hget_set gf249
theorem gf253 : hpush G110_ (oI 0 301 (fun _ => 0)) = G111_ := by rfl
theorem gf254 : G111_.1.length = 55 := by rw [show G111_ = hpush G110_ (oI 0 301 (fun _ => 0)) from rfl, push_len, gf251]
theorem gf255 : hget G111_ 52 = some (oO 12 [aI 0, aD 53, aI 0, aN, aN, aI 0, aN, aI 0, aI 0, aI 0, aI 0, aN, aI 0, aN, aN, aN, aI 0, aN, aN, aN, aI 0, aI 0, aI 0, aN, aN, aI 0, aN, aI 0, aN, aN, aI 0, aN, aI 0, aN, aN]) := (hget_push (show 52 < G110_.1.length by rw [gf251]; omega)).trans gf252
set_option maxRecDepth 8000 in
theorem gf256 : putF G111_ 52 12 3 3 (aD 54) = some G112_ := putF_D gf255 (show 3 < 35 by decide) rfl
theorem gf257 : G112_.1.length = 55 := by rw [show G112_ = hset G111_ 52 (oO 12 [aI 0, aD 53, aI 0, aD 54, aN, aI 0, aN, aI 0, aI 0, aI 0, aI 0, aN, aI 0, aN, aN, aN, aI 0, aN, aN, aN, aI 0, aI 0, aI 0, aN, aN, aI 0, aN, aI 0, aN, aN, aI 0, aN, aI 0, aN, aN]) from rfl, hset_len, gf254]
theorem gf258 : hget G112_ 52 = some (oO 12 [aI 0, aD 53, aI 0, aD 54, aN, aI 0, aN, aI 0, aI 0, aI 0, aI 0, aN, aI 0, aN, aN, aN, aI 0, aN, aN, aN, aI 0, aI 0, aI 0, aN, aN, aI 0, aN, aI 0, aN, aN, aI 0, aN, aI 0, aN, aN]) := hget_set gf255
theorem gf259 : hpush G112_ (oI 0 2408 (fun _ => 0)) = G113_ := by rfl
theorem gf260 : G113_.1.length = 56 := by rw [show G113_ = hpush G112_ (oI 0 2408 (fun _ => 0)) from rfl, push_len, gf257]
theorem gf261 : hget G113_ 52 = some (oO 12 [aI 0, aD 53, aI 0, aD 54, aN, aI 0, aN, aI 0, aI 0, aI 0, aI 0, aN, aI 0, aN, aN, aN, aI 0, aN, aN, aN, aI 0, aI 0, aI 0, aN, aN, aI 0, aN, aI 0, aN, aN, aI 0, aN, aI 0, aN, aN]) := (hget_push (show 52 < G112_.1.length by rw [gf257]; omega)).trans gf258
set_option maxRecDepth 8000 in
theorem gf262 : putF G113_ 52 12 4 3 (aD 55) = some G114_ := putF_D gf261 (show 4 < 35 by decide) rfl
theorem gf263 : G114_.1.length = 56 := by rw [show G114_ = hset G113_ 52 (oO 12 [aI 0, aD 53, aI 0, aD 54, aD 55, aI 0, aN, aI 0, aI 0, aI 0, aI 0, aN, aI 0, aN, aN, aN, aI 0, aN, aN, aN, aI 0, aI 0, aI 0, aN, aN, aI 0, aN, aI 0, aN, aN, aI 0, aN, aI 0, aN, aN]) from rfl, hset_len, gf260]
theorem gf264 : hget G114_ 52 = some (oO 12 [aI 0, aD 53, aI 0, aD 54, aD 55, aI 0, aN, aI 0, aI 0, aI 0, aI 0, aN, aI 0, aN, aN, aN, aI 0, aN, aN, aN, aI 0, aI 0, aI 0, aN, aN, aI 0, aN, aI 0, aN, aN, aI 0, aN, aI 0, aN, aN]) := hget_set gf261
theorem gf265 : hpush G114_ (oI 1 120 (fun _ => 0)) = G115_ := by rfl
theorem gf266 : G115_.1.length = 57 := by rw [show G115_ = hpush G114_ (oI 1 120 (fun _ => 0)) from rfl, push_len, gf263]
theorem gf267 : hget G115_ 52 = some (oO 12 [aI 0, aD 53, aI 0, aD 54, aD 55, aI 0, aN, aI 0, aI 0, aI 0, aI 0, aN, aI 0, aN, aN, aN, aI 0, aN, aN, aN, aI 0, aI 0, aI 0, aN, aN, aI 0, aN, aI 0, aN, aN, aI 0, aN, aI 0, aN, aN]) := (hget_push (show 52 < G114_.1.length by rw [gf263]; omega)).trans gf264
set_option maxRecDepth 8000 in
theorem gf268 : putF G115_ 52 12 6 3 (aD 56) = some G116_ := putF_D gf267 (show 6 < 35 by decide) rfl
theorem gf269 : G116_.1.length = 57 := by rw [show G116_ = hset G115_ 52 (oO 12 [aI 0, aD 53, aI 0, aD 54, aD 55, aI 0, aD 56, aI 0, aI 0, aI 0, aI 0, aN, aI 0, aN, aN, aN, aI 0, aN, aN, aN, aI 0, aI 0, aI 0, aN, aN, aI 0, aN, aI 0, aN, aN, aI 0, aN, aI 0, aN, aN]) from rfl, hset_len, gf266]
theorem gf270 : hget G116_ 52 = some (oO 12 [aI 0, aD 53, aI 0, aD 54, aD 55, aI 0, aD 56, aI 0, aI 0, aI 0, aI 0, aN, aI 0, aN, aN, aN, aI 0, aN, aN, aN, aI 0, aI 0, aI 0, aN, aN, aI 0, aN, aI 0, aN, aN, aI 0, aN, aI 0, aN, aN]) := hget_set gf267
theorem gf271 : hpush G116_ (oI 0 244 (fun _ => 0)) = G117_ := by rfl
theorem gf272 : G117_.1.length = 58 := by rw [show G117_ = hpush G116_ (oI 0 244 (fun _ => 0)) from rfl, push_len, gf269]
theorem gf273 : hget G117_ 52 = some (oO 12 [aI 0, aD 53, aI 0, aD 54, aD 55, aI 0, aD 56, aI 0, aI 0, aI 0, aI 0, aN, aI 0, aN, aN, aN, aI 0, aN, aN, aN, aI 0, aI 0, aI 0, aN, aN, aI 0, aN, aI 0, aN, aN, aI 0, aN, aI 0, aN, aN]) := (hget_push (show 52 < G116_.1.length by rw [gf269]; omega)).trans gf270
set_option maxRecDepth 8000 in
theorem gf274 : putF G117_ 52 12 11 3 (aD 57) = some G118_ := putF_D gf273 (show 11 < 35 by decide) rfl
theorem gf275 : G118_.1.length = 58 := by rw [show G118_ = hset G117_ 52 (oO 12 [aI 0, aD 53, aI 0, aD 54, aD 55, aI 0, aD 56, aI 0, aI 0, aI 0, aI 0, aD 57, aI 0, aN, aN, aN, aI 0, aN, aN, aN, aI 0, aI 0, aI 0, aN, aN, aI 0, aN, aI 0, aN, aN, aI 0, aN, aI 0, aN, aN]) from rfl, hset_len, gf272]
theorem gf276 : hget G118_ 52 = some (oO 12 [aI 0, aD 53, aI 0, aD 54, aD 55, aI 0, aD 56, aI 0, aI 0, aI 0, aI 0, aD 57, aI 0, aN, aN, aN, aI 0, aN, aN, aN, aI 0, aI 0, aI 0, aN, aN, aI 0, aN, aI 0, aN, aN, aI 0, aN, aI 0, aN, aN]) := hget_set gf273
theorem gf277 : hpush G118_ (oI 3 62 (fun _ => 0)) = G119_ := by rfl
theorem gf278 : G119_.1.length = 59 := by rw [show G119_ = hpush G118_ (oI 3 62 (fun _ => 0)) from rfl, push_len, gf275]
theorem gf279 : hget G119_ 52 = some (oO 12 [aI 0, aD 53, aI 0, aD 54, aD 55, aI 0, aD 56, aI 0, aI 0, aI 0, aI 0, aD 57, aI 0, aN, aN, aN, aI 0, aN, aN, aN, aI 0, aI 0, aI 0, aN, aN, aI 0, aN, aI 0, aN, aN, aI 0, aN, aI 0, aN, aN]) := (hget_push (show 52 < G118_.1.length by rw [gf275]; omega)).trans gf276
set_option maxRecDepth 8000 in
theorem gf280 : putF G119_ 52 12 13 3 (aD 58) = some G120_ := putF_D gf279 (show 13 < 35 by decide) rfl
theorem gf281 : G120_.1.length = 59 := by rw [show G120_ = hset G119_ 52 (oO 12 [aI 0, aD 53, aI 0, aD 54, aD 55, aI 0, aD 56, aI 0, aI 0, aI 0, aI 0, aD 57, aI 0, aD 58, aN, aN, aI 0, aN, aN, aN, aI 0, aI 0, aI 0, aN, aN, aI 0, aN, aI 0, aN, aN, aI 0, aN, aI 0, aN, aN]) from rfl, hset_len, gf278]
theorem gf282 : hget G120_ 52 = some (oO 12 [aI 0, aD 53, aI 0, aD 54, aD 55, aI 0, aD 56, aI 0, aI 0, aI 0, aI 0, aD 57, aI 0, aD 58, aN, aN, aI 0, aN, aN, aN, aI 0, aI 0, aI 0, aN, aN, aI 0, aN, aI 0, aN, aN, aI 0, aN, aI 0, aN, aN]) := hget_set gf279
theorem gf283 : hpush G120_ (oI 0 62 (fun _ => 0)) = G121_ := by rfl
theorem gf284 : G121_.1.length = 60 := by rw [show G121_ = hpush G120_ (oI 0 62 (fun _ => 0)) from rfl, push_len, gf281]
theorem gf285 : hget G121_ 52 = some (oO 12 [aI 0, aD 53, aI 0, aD 54, aD 55, aI 0, aD 56, aI 0, aI 0, aI 0, aI 0, aD 57, aI 0, aD 58, aN, aN, aI 0, aN, aN, aN, aI 0, aI 0, aI 0, aN, aN, aI 0, aN, aI 0, aN, aN, aI 0, aN, aI 0, aN, aN]) := (hget_push (show 52 < G120_.1.length by rw [gf281]; omega)).trans gf282
set_option maxRecDepth 8000 in
theorem gf286 : putF G121_ 52 12 14 3 (aD 59) = some G122_ := putF_D gf285 (show 14 < 35 by decide) rfl
theorem gf287 : G122_.1.length = 60 := by rw [show G122_ = hset G121_ 52 (oO 12 [aI 0, aD 53, aI 0, aD 54, aD 55, aI 0, aD 56, aI 0, aI 0, aI 0, aI 0, aD 57, aI 0, aD 58, aD 59, aN, aI 0, aN, aN, aN, aI 0, aI 0, aI 0, aN, aN, aI 0, aN, aI 0, aN, aN, aI 0, aN, aI 0, aN, aN]) from rfl, hset_len, gf284]
theorem gf288 : hget G122_ 52 = some (oO 12 [aI 0, aD 53, aI 0, aD 54, aD 55, aI 0, aD 56, aI 0, aI 0, aI 0, aI 0, aD 57, aI 0, aD 58, aD 59, aN, aI 0, aN, aN, aN, aI 0, aI 0, aI 0, aN, aN, aI 0, aN, aI 0, aN, aN, aI 0, aN, aI 0, aN, aN]) := hget_set gf285
theorem gf289 : hpush G122_ (oI 1 1200 (fun _ => 0)) = G123_ := by rfl
theorem gf290 : G123_.1.length = 61 := by rw [show G123_ = hpush G122_ (oI 1 1200 (fun _ => 0)) from rfl, push_len, gf287]
theorem gf291 : hget G123_ 52 = some (oO 12 [aI 0, aD 53, aI 0, aD 54, aD 55, aI 0, aD 56, aI 0, aI 0, aI 0, aI 0, aD 57, aI 0, aD 58, aD 59, aN, aI 0, aN, aN, aN, aI 0, aI 0, aI 0, aN, aN, aI 0, aN, aI 0, aN, aN, aI 0, aN, aI 0, aN, aN]) := (hget_push (show 52 < G122_.1.length by rw [gf287]; omega)).trans gf288
set_option maxRecDepth 8000 in
theorem gf292 : putF G123_ 52 12 15 3 (aD 60) = some G124_ := putF_D gf291 (show 15 < 35 by decide) rfl
theorem gf293 : G124_.1.length = 61 := by rw [show G124_ = hset G123_ 52 (oO 12 [aI 0, aD 53, aI 0, aD 54, aD 55, aI 0, aD 56, aI 0, aI 0, aI 0, aI 0, aD 57, aI 0, aD 58, aD 59, aD 60, aI 0, aN, aN, aN, aI 0, aI 0, aI 0, aN, aN, aI 0, aN, aI 0, aN, aN, aI 0, aN, aI 0, aN, aN]) from rfl, hset_len, gf290]
theorem gf294 : hget G124_ 52 = some (oO 12 [aI 0, aD 53, aI 0, aD 54, aD 55, aI 0, aD 56, aI 0, aI 0, aI 0, aI 0, aD 57, aI 0, aD 58, aD 59, aD 60, aI 0, aN, aN, aN, aI 0, aI 0, aI 0, aN, aN, aI 0, aN, aI 0, aN, aN, aI 0, aN, aI 0, aN, aN]) := hget_set gf291
theorem gf295 : hpush G124_ (oI 0 24 (fun _ => 0)) = G125_ := by rfl
theorem gf296 : G125_.1.length = 62 := by rw [show G125_ = hpush G124_ (oI 0 24 (fun _ => 0)) from rfl, push_len, gf293]
theorem gf297 : hget G125_ 52 = some (oO 12 [aI 0, aD 53, aI 0, aD 54, aD 55, aI 0, aD 56, aI 0, aI 0, aI 0, aI 0, aD 57, aI 0, aD 58, aD 59, aD 60, aI 0, aN, aN, aN, aI 0, aI 0, aI 0, aN, aN, aI 0, aN, aI 0, aN, aN, aI 0, aN, aI 0, aN, aN]) := (hget_push (show 52 < G124_.1.length by rw [gf293]; omega)).trans gf294
set_option maxRecDepth 8000 in
theorem gf298 : putF G125_ 52 12 17 3 (aD 61) = some G126_ := putF_D gf297 (show 17 < 35 by decide) rfl
theorem gf299 : G126_.1.length = 62 := by rw [show G126_ = hset G125_ 52 (oO 12 [aI 0, aD 53, aI 0, aD 54, aD 55, aI 0, aD 56, aI 0, aI 0, aI 0, aI 0, aD 57, aI 0, aD 58, aD 59, aD 60, aI 0, aD 61, aN, aN, aI 0, aI 0, aI 0, aN, aN, aI 0, aN, aI 0, aN, aN, aI 0, aN, aI 0, aN, aN]) from rfl, hset_len, gf296]
theorem gf300 : hget G126_ 52 = some (oO 12 [aI 0, aD 53, aI 0, aD 54, aD 55, aI 0, aD 56, aI 0, aI 0, aI 0, aI 0, aD 57, aI 0, aD 58, aD 59, aD 60, aI 0, aD 61, aN, aN, aI 0, aI 0, aI 0, aN, aN, aI 0, aN, aI 0, aN, aN, aI 0, aN, aI 0, aN, aN]) := hget_set gf297
theorem gf301 : hpush G126_ (oI 0 24 (fun _ => 0)) = G127_ := by rfl
theorem gf302 : G127_.1.length = 63 := by rw [show G127_ = hpush G126_ (oI 0 24 (fun _ => 0)) from rfl, push_len, gf299]
theorem gf303 : hget G127_ 52 = some (oO 12 [aI 0, aD 53, aI 0, aD 54, aD 55, aI 0, aD 56, aI 0, aI 0, aI 0, aI 0, aD 57, aI 0, aD 58, aD 59, aD 60, aI 0, aD 61, aN, aN, aI 0, aI 0, aI 0, aN, aN, aI 0, aN, aI 0, aN, aN, aI 0, aN, aI 0, aN, aN]) := (hget_push (show 52 < G126_.1.length by rw [gf299]; omega)).trans gf300
set_option maxRecDepth 8000 in
theorem gf304 : putF G127_ 52 12 18 3 (aD 62) = some G128_ := putF_D gf303 (show 18 < 35 by decide) rfl
theorem gf305 : G128_.1.length = 63 := by rw [show G128_ = hset G127_ 52 (oO 12 [aI 0, aD 53, aI 0, aD 54, aD 55, aI 0, aD 56, aI 0, aI 0, aI 0, aI 0, aD 57, aI 0, aD 58, aD 59, aD 60, aI 0, aD 61, aD 62, aN, aI 0, aI 0, aI 0, aN, aN, aI 0, aN, aI 0, aN, aN, aI 0, aN, aI 0, aN, aN]) from rfl, hset_len, gf302]
theorem gf306 : hget G128_ 52 = some (oO 12 [aI 0, aD 53, aI 0, aD 54, aD 55, aI 0, aD 56, aI 0, aI 0, aI 0, aI 0, aD 57, aI 0, aD 58, aD 59, aD 60, aI 0, aD 61, aD 62, aN, aI 0, aI 0, aI 0, aN, aN, aI 0, aN, aI 0, aN, aN, aI 0, aN, aI 0, aN, aN]) := hget_set gf303
theorem gf307 : hpush G128_ (oI 0 2000 (fun _ => 0)) = G129_ := by rfl
theorem gf308 : G129_.1.length = 64 := by rw [show G129_ = hpush G128_ (oI 0 2000 (fun _ => 0)) from rfl, push_len, gf305]
theorem gf309 : hget G129_ 52 = some (oO 12 [aI 0, aD 53, aI 0, aD 54, aD 55, aI 0, aD 56, aI 0, aI 0, aI 0, aI 0, aD 57, aI 0, aD 58, aD 59, aD 60, aI 0, aD 61, aD 62, aN, aI 0, aI 0, aI 0, aN, aN, aI 0, aN, aI 0, aN, aN, aI 0, aN, aI 0, aN, aN]) := (hget_push (show 52 < G128_.1.length by rw [gf305]; omega)).trans gf306
set_option maxRecDepth 8000 in
theorem gf310 : putF G129_ 52 12 19 3 (aD 63) = some G130_ := putF_D gf309 (show 19 < 35 by decide) rfl
theorem gf311 : G130_.1.length = 64 := by rw [show G130_ = hset G129_ 52 (oO 12 [aI 0, aD 53, aI 0, aD 54, aD 55, aI 0, aD 56, aI 0, aI 0, aI 0, aI 0, aD 57, aI 0, aD 58, aD 59, aD 60, aI 0, aD 61, aD 62, aD 63, aI 0, aI 0, aI 0, aN, aN, aI 0, aN, aI 0, aN, aN, aI 0, aN, aI 0, aN, aN]) from rfl, hset_len, gf308]
theorem gf312 : hget G130_ 52 = some (oO 12 [aI 0, aD 53, aI 0, aD 54, aD 55, aI 0, aD 56, aI 0, aI 0, aI 0, aI 0, aD 57, aI 0, aD 58, aD 59, aD 60, aI 0, aD 61, aD 62, aD 63, aI 0, aI 0, aI 0, aN, aN, aI 0, aN, aI 0, aN, aN, aI 0, aN, aI 0, aN, aN]) := hget_set gf309
theorem gf313 : hpush G130_ (oI 0 24 (fun _ => 0)) = G131_ := by rfl
theorem gf314 : G131_.1.length = 65 := by rw [show G131_ = hpush G130_ (oI 0 24 (fun _ => 0)) from rfl, push_len, gf311]
theorem gf315 : hget G131_ 52 = some (oO 12 [aI 0, aD 53, aI 0, aD 54, aD 55, aI 0, aD 56, aI 0, aI 0, aI 0, aI 0, aD 57, aI 0, aD 58, aD 59, aD 60, aI 0, aD 61, aD 62, aD 63, aI 0, aI 0, aI 0, aN, aN, aI 0, aN, aI 0, aN, aN, aI 0, aN, aI 0, aN, aN]) := (hget_push (show 52 < G130_.1.length by rw [gf311]; omega)).trans gf312
set_option maxRecDepth 8000 in
theorem gf316 : putF G131_ 52 12 23 3 (aD 64) = some G132_ := putF_D gf315 (show 23 < 35 by decide) rfl
theorem gf317 : G132_.1.length = 65 := by rw [show G132_ = hset G131_ 52 (oO 12 [aI 0, aD 53, aI 0, aD 54, aD 55, aI 0, aD 56, aI 0, aI 0, aI 0, aI 0, aD 57, aI 0, aD 58, aD 59, aD 60, aI 0, aD 61, aD 62, aD 63, aI 0, aI 0, aI 0, aD 64, aN, aI 0, aN, aI 0, aN, aN, aI 0, aN, aI 0, aN, aN]) from rfl, hset_len, gf314]
theorem gf318 : hget G132_ 52 = some (oO 12 [aI 0, aD 53, aI 0, aD 54, aD 55, aI 0, aD 56, aI 0, aI 0, aI 0, aI 0, aD 57, aI 0, aD 58, aD 59, aD 60, aI 0, aD 61, aD 62, aD 63, aI 0, aI 0, aI 0, aD 64, aN, aI 0, aN, aI 0, aN, aN, aI 0, aN, aI 0, aN, aN]) := hget_set gf315
theorem gf319 : hpush G132_ (oI 0 2000 (fun _ => 0)) = G133_ := by rfl
theorem gf320 : G133_.1.length = 66 := by rw [show G133_ = hpush G132_ (oI 0 2000 (fun _ => 0)) from rfl, push_len, gf317]
theorem gf321 : hget G133_ 52 = some (oO 12 [aI 0, aD 53, aI 0, aD 54, aD 55, aI 0, aD 56, aI 0, aI 0, aI 0, aI 0, aD 57, aI 0, aD 58, aD 59, aD 60, aI 0, aD 61, aD 62, aD 63, aI 0, aI 0, aI 0, aD 64, aN, aI 0, aN, aI 0, aN, aN, aI 0, aN, aI 0, aN, aN]) := (hget_push (show 52 < G132_.1.length by rw [gf317]; omega)).trans gf318
set_option maxRecDepth 8000 in
theorem gf322 : putF G133_ 52 12 24 3 (aD 65) = some G134_ := putF_D gf321 (show 24 < 35 by decide) rfl
theorem gf323 : G134_.1.length = 66 := by rw [show G134_ = hset G133_ 52 (oO 12 [aI 0, aD 53, aI 0, aD 54, aD 55, aI 0, aD 56, aI 0, aI 0, aI 0, aI 0, aD 57, aI 0, aD 58, aD 59, aD 60, aI 0, aD 61, aD 62, aD 63, aI 0, aI 0, aI 0, aD 64, aD 65, aI 0, aN, aI 0, aN, aN, aI 0, aN, aI 0, aN, aN]) from rfl, hset_len, gf320]
theorem gf324 : hget G134_ 52 = some (oO 12 [aI 0, aD 53, aI 0, aD 54, aD 55, aI 0, aD 56, aI 0, aI 0, aI 0, aI 0, aD 57, aI 0, aD 58, aD 59, aD 60, aI 0, aD 61, aD 62, aD 63, aI 0, aI 0, aI 0, aD 64, aD 65, aI 0, aN, aI 0, aN, aN, aI 0, aN, aI 0, aN, aN]) := hget_set gf321
theorem gf325 : hpush G134_ (oI 0 24 (fun _ => 0)) = G135_ := by rfl
theorem gf326 : G135_.1.length = 67 := by rw [show G135_ = hpush G134_ (oI 0 24 (fun _ => 0)) from rfl, push_len, gf323]
theorem gf327 : hget G135_ 52 = some (oO 12 [aI 0, aD 53, aI 0, aD 54, aD 55, aI 0, aD 56, aI 0, aI 0, aI 0, aI 0, aD 57, aI 0, aD 58, aD 59, aD 60, aI 0, aD 61, aD 62, aD 63, aI 0, aI 0, aI 0, aD 64, aD 65, aI 0, aN, aI 0, aN, aN, aI 0, aN, aI 0, aN, aN]) := (hget_push (show 52 < G134_.1.length by rw [gf323]; omega)).trans gf324
set_option maxRecDepth 8000 in
theorem gf328 : putF G135_ 52 12 26 3 (aD 66) = some G136_ := putF_D gf327 (show 26 < 35 by decide) rfl
theorem gf329 : G136_.1.length = 67 := by rw [show G136_ = hset G135_ 52 (oO 12 [aI 0, aD 53, aI 0, aD 54, aD 55, aI 0, aD 56, aI 0, aI 0, aI 0, aI 0, aD 57, aI 0, aD 58, aD 59, aD 60, aI 0, aD 61, aD 62, aD 63, aI 0, aI 0, aI 0, aD 64, aD 65, aI 0, aD 66, aI 0, aN, aN, aI 0, aN, aI 0, aN, aN]) from rfl, hset_len, gf326]
theorem gf330 : hget G136_ 52 = some (oO 12 [aI 0, aD 53, aI 0, aD 54, aD 55, aI 0, aD 56, aI 0, aI 0, aI 0, aI 0, aD 57, aI 0, aD 58, aD 59, aD 60, aI 0, aD 61, aD 62, aD 63, aI 0, aI 0, aI 0, aD 64, aD 65, aI 0, aD 66, aI 0, aN, aN, aI 0, aN, aI 0, aN, aN]) := hget_set gf327
theorem gf331 : hpush G136_ (oI 0 16 (fun _ => 0)) = G137_ := by rfl
theorem gf332 : G137_.1.length = 68 := by rw [show G137_ = hpush G136_ (oI 0 16 (fun _ => 0)) from rfl, push_len, gf329]
theorem gf333 : hget G137_ 52 = some (oO 12 [aI 0, aD 53, aI 0, aD 54, aD 55, aI 0, aD 56, aI 0, aI 0, aI 0, aI 0, aD 57, aI 0, aD 58, aD 59, aD 60, aI 0, aD 61, aD 62, aD 63, aI 0, aI 0, aI 0, aD 64, aD 65, aI 0, aD 66, aI 0, aN, aN, aI 0, aN, aI 0, aN, aN]) := (hget_push (show 52 < G136_.1.length by rw [gf329]; omega)).trans gf330
set_option maxRecDepth 8000 in
theorem gf334 : putF G137_ 52 12 28 3 (aD 67) = some G138_ := putF_D gf333 (show 28 < 35 by decide) rfl
theorem gf335 : G138_.1.length = 68 := by rw [show G138_ = hset G137_ 52 (oO 12 [aI 0, aD 53, aI 0, aD 54, aD 55, aI 0, aD 56, aI 0, aI 0, aI 0, aI 0, aD 57, aI 0, aD 58, aD 59, aD 60, aI 0, aD 61, aD 62, aD 63, aI 0, aI 0, aI 0, aD 64, aD 65, aI 0, aD 66, aI 0, aD 67, aN, aI 0, aN, aI 0, aN, aN]) from rfl, hset_len, gf332]
theorem gf336 : hget G138_ 52 = some (oO 12 [aI 0, aD 53, aI 0, aD 54, aD 55, aI 0, aD 56, aI 0, aI 0, aI 0, aI 0, aD 57, aI 0, aD 58, aD 59, aD 60, aI 0, aD 61, aD 62, aD 63, aI 0, aI 0, aI 0, aD 64, aD 65, aI 0, aD 66, aI 0, aD 67, aN, aI 0, aN, aI 0, aN, aN]) := hget_set gf333
theorem gf337 : hpush G138_ (oI 0 2000 (fun _ => 0)) = G139_ := by rfl
theorem gf338 : G139_.1.length = 69 := by rw [show G139_ = hpush G138_ (oI 0 2000 (fun _ => 0)) from rfl, push_len, gf335]
theorem gf339 : hget G139_ 52 = some (oO 12 [aI 0, aD 53, aI 0, aD 54, aD 55, aI 0, aD 56, aI 0, aI 0, aI 0, aI 0, aD 57, aI 0, aD 58, aD 59, aD 60, aI 0, aD 61, aD 62, aD 63, aI 0, aI 0, aI 0, aD 64, aD 65, aI 0, aD 66, aI 0, aD 67, aN, aI 0, aN, aI 0, aN, aN]) := (hget_push (show 52 < G138_.1.length by rw [gf335]; omega)).trans gf336
set_option maxRecDepth 8000 in
theorem gf340 : putF G139_ 52 12 29 3 (aD 68) = some G140_ := putF_D gf339 (show 29 < 35 by decide) rfl
theorem gf341 : G140_.1.length = 69 := by rw [show G140_ = hset G139_ 52 (oO 12 [aI 0, aD 53, aI 0, aD 54, aD 55, aI 0, aD 56, aI 0, aI 0, aI 0, aI 0, aD 57, aI 0, aD 58, aD 59, aD 60, aI 0, aD 61, aD 62, aD 63, aI 0, aI 0, aI 0, aD 64, aD 65, aI 0, aD 66, aI 0, aD 67, aD 68, aI 0, aN, aI 0, aN, aN]) from rfl, hset_len, gf338]
theorem gf342 : hget G140_ 52 = some (oO 12 [aI 0, aD 53, aI 0, aD 54, aD 55, aI 0, aD 56, aI 0, aI 0, aI 0, aI 0, aD 57, aI 0, aD 58, aD 59, aD 60, aI 0, aD 61, aD 62, aD 63, aI 0, aI 0, aI 0, aD 64, aD 65, aI 0, aD 66, aI 0, aD 67, aD 68, aI 0, aN, aI 0, aN, aN]) := hget_set gf339
theorem gf343 : hpush G140_ (oI 0 120 (fun _ => 0)) = G141_ := by rfl
theorem gf344 : G141_.1.length = 70 := by rw [show G141_ = hpush G140_ (oI 0 120 (fun _ => 0)) from rfl, push_len, gf341]
theorem gf345 : hget G141_ 52 = some (oO 12 [aI 0, aD 53, aI 0, aD 54, aD 55, aI 0, aD 56, aI 0, aI 0, aI 0, aI 0, aD 57, aI 0, aD 58, aD 59, aD 60, aI 0, aD 61, aD 62, aD 63, aI 0, aI 0, aI 0, aD 64, aD 65, aI 0, aD 66, aI 0, aD 67, aD 68, aI 0, aN, aI 0, aN, aN]) := (hget_push (show 52 < G140_.1.length by rw [gf341]; omega)).trans gf342
set_option maxRecDepth 8000 in
theorem gf346 : putF G141_ 52 12 31 3 (aD 69) = some G142_ := putF_D gf345 (show 31 < 35 by decide) rfl
theorem gf347 : G142_.1.length = 70 := by rw [show G142_ = hset G141_ 52 (oO 12 [aI 0, aD 53, aI 0, aD 54, aD 55, aI 0, aD 56, aI 0, aI 0, aI 0, aI 0, aD 57, aI 0, aD 58, aD 59, aD 60, aI 0, aD 61, aD 62, aD 63, aI 0, aI 0, aI 0, aD 64, aD 65, aI 0, aD 66, aI 0, aD 67, aD 68, aI 0, aD 69, aI 0, aN, aN]) from rfl, hset_len, gf344]
theorem gf348 : hget G142_ 52 = some (oO 12 [aI 0, aD 53, aI 0, aD 54, aD 55, aI 0, aD 56, aI 0, aI 0, aI 0, aI 0, aD 57, aI 0, aD 58, aD 59, aD 60, aI 0, aD 61, aD 62, aD 63, aI 0, aI 0, aI 0, aD 64, aD 65, aI 0, aD 66, aI 0, aD 67, aD 68, aI 0, aD 69, aI 0, aN, aN]) := hget_set gf345
theorem gf349 : hpush G142_ (oI 0 301 (fun _ => 0)) = G143_ := by rfl
theorem gf350 : G143_.1.length = 71 := by rw [show G143_ = hpush G142_ (oI 0 301 (fun _ => 0)) from rfl, push_len, gf347]
theorem gf351 : hget G143_ 52 = some (oO 12 [aI 0, aD 53, aI 0, aD 54, aD 55, aI 0, aD 56, aI 0, aI 0, aI 0, aI 0, aD 57, aI 0, aD 58, aD 59, aD 60, aI 0, aD 61, aD 62, aD 63, aI 0, aI 0, aI 0, aD 64, aD 65, aI 0, aD 66, aI 0, aD 67, aD 68, aI 0, aD 69, aI 0, aN, aN]) := (hget_push (show 52 < G142_.1.length by rw [gf347]; omega)).trans gf348
set_option maxRecDepth 8000 in
theorem gf352 : putF G143_ 52 12 33 3 (aD 70) = some G144_ := putF_D gf351 (show 33 < 35 by decide) rfl
theorem gf353 : G144_.1.length = 71 := by rw [show G144_ = hset G143_ 52 (oO 12 [aI 0, aD 53, aI 0, aD 54, aD 55, aI 0, aD 56, aI 0, aI 0, aI 0, aI 0, aD 57, aI 0, aD 58, aD 59, aD 60, aI 0, aD 61, aD 62, aD 63, aI 0, aI 0, aI 0, aD 64, aD 65, aI 0, aD 66, aI 0, aD 67, aD 68, aI 0, aD 69, aI 0, aD 70, aN]) from rfl, hset_len, gf350]
theorem gf354 : hget G144_ 52 = some (oO 12 [aI 0, aD 53, aI 0, aD 54, aD 55, aI 0, aD 56, aI 0, aI 0, aI 0, aI 0, aD 57, aI 0, aD 58, aD 59, aD 60, aI 0, aD 61, aD 62, aD 63, aI 0, aI 0, aI 0, aD 64, aD 65, aI 0, aD 66, aI 0, aD 67, aD 68, aI 0, aD 69, aI 0, aD 70, aN]) := hget_set gf351
theorem gf355 : hpush G144_ (oI 0 24 (fun _ => 0)) = G145_ := by rfl
theorem gf356 : G145_.1.length = 72 := by rw [show G145_ = hpush G144_ (oI 0 24 (fun _ => 0)) from rfl, push_len, gf353]
theorem gf357 : hget G145_ 52 = some (oO 12 [aI 0, aD 53, aI 0, aD 54, aD 55, aI 0, aD 56, aI 0, aI 0, aI 0, aI 0, aD 57, aI 0, aD 58, aD 59, aD 60, aI 0, aD 61, aD 62, aD 63, aI 0, aI 0, aI 0, aD 64, aD 65, aI 0, aD 66, aI 0, aD 67, aD 68, aI 0, aD 69, aI 0, aD 70, aN]) := (hget_push (show 52 < G144_.1.length by rw [gf353]; omega)).trans gf354
set_option maxRecDepth 8000 in
theorem gf358 : putF G145_ 52 12 34 3 (aD 71) = some G146_ := putF_D gf357 (show 34 < 35 by decide) rfl
theorem gf359 : G146_.1.length = 72 := by rw [show G146_ = hset G145_ 52 (oO 12 [aI 0, aD 53, aI 0, aD 54, aD 55, aI 0, aD 56, aI 0, aI 0, aI 0, aI 0, aD 57, aI 0, aD 58, aD 59, aD 60, aI 0, aD 61, aD 62, aD 63, aI 0, aI 0, aI 0, aD 64, aD 65, aI 0, aD 66, aI 0, aD 67, aD 68, aI 0, aD 69, aI 0, aD 70, aD 71]) from rfl, hset_len, gf356]
theorem gf360 : hget G146_ 52 = some (oO 12 [aI 0, aD 53, aI 0, aD 54, aD 55, aI 0, aD 56, aI 0, aI 0, aI 0, aI 0, aD 57, aI 0, aD 58, aD 59, aD 60, aI 0, aD 61, aD 62, aD 63, aI 0, aI 0, aI 0, aD 64, aD 65, aI 0, aD 66, aI 0, aD 67, aD 68, aI 0, aD 69, aI 0, aD 70, aD 71]) := hget_set gf357
theorem gc24 (sc : SC) : Call sc n_X10_init [aD 52] G108_ = some (.inl none, G146_) := by
  rw [c0_X10_init, e_X10_init_0, cl_120, cb_120, gf245, gf247, e_X10_init_9, gf250, bO_some, e_X10_init_12, cl_301, cb_301, gf251, gf253, e_X10_init_18, gf256, bO_some, e_X10_init_21, cl_2408, cb_2408, gf257, gf259, e_X10_init_27, gf262, bO_some, e_X10_init_30, cl_120, cb_120, gf263, gf265, e_X10_init_35, gf268, bO_some, e_X10_init_38, cl_244, cb_244, gf269, gf271, e_X10_init_44, gf274, bO_some, e_X10_init_47, cl_62, cb_62, gf275, gf277, e_X10_init_52, gf280, bO_some, e_X10_init_55, cl_62, cb_62, gf281, gf283, e_X10_init_60, gf286, bO_some, e_X10_init_63, cl_1200, cb_1200, gf287, gf289, e_X10_init_69, gf292, bO_some, e_X10_init_72, cl_24, cb_24, gf293, gf295, e_X10_init_77, gf298, bO_some, e_X10_init_80, cl_24, cb_24, gf299, gf301, e_X10_init_85, gf304, bO_some, e_X10_init_88, cl_2000, cb_2000, gf305, gf307, e_X10_init_94, gf310, bO_some, e_X10_init_97, cl_24, cb_24, gf311, gf313, e_X10_init_102, gf316, bO_some, e_X10_init_105, cl_2000, cb_2000, gf317, gf319, e_X10_init_111, gf322, bO_some, e_X10_init_114, cl_24, cb_24, gf323, gf325, e_X10_init_119, gf328, bO_some, e_X10_init_122, cl_16, cb_16, gf329, gf331, e_X10_init_127, gf334, bO_some, e_X10_init_130, cl_2000, cb_2000, gf335, gf337, e_X10_init_136, gf340, bO_some, e_X10_init_139, cl_120, cb_120, gf341, gf343, e_X10_init_144, gf346, bO_some, e_X10_init_147, cl_301, cb_301, gf347, gf349, e_X10_init_153, gf352, bO_some, e_X10_init_156, cl_24, cb_24, gf353, gf355, e_X10_init_161, gf358, bO_some, e_X10_init_164]
theorem gf361 : hpush G146_ (oL 1 (fun _ => 0)) = G147_ := by rfl
theorem gf362 : G147_.1.length = 73 := by rw [show G147_ = hpush G146_ (oL 1 (fun _ => 0)) from rfl, push_len, gf359]
theorem gf363 : hget G147_ 52 = some (oO 12 [aI 0, aD 53, aI 0, aD 54, aD 55, aI 0, aD 56, aI 0, aI 0, aI 0, aI 0, aD 57, aI 0, aD 58, aD 59, aD 60, aI 0, aD 61, aD 62, aD 63, aI 0, aI 0, aI 0, aD 64, aD 65, aI 0, aD 66, aI 0, aD 67, aD 68, aI 0, aD 69, aI 0, aD 70, aD 71]) := (hget_push (show 52 < G146_.1.length by rw [gf359]; omega)).trans gf360
theorem gf364 : hpush G147_ (oE 1 (fun _ => 0)) = G148_ := by rfl
theorem gf365 : G148_.1.length = 74 := by rw [show G148_ = hpush G147_ (oE 1 (fun _ => 0)) from rfl, push_len, gf362]
theorem gf366 : hget G148_ 52 = some (oO 12 [aI 0, aD 53, aI 0, aD 54, aD 55, aI 0, aD 56, aI 0, aI 0, aI 0, aI 0, aD 57, aI 0, aD 58, aD 59, aD 60, aI 0, aD 61, aD 62, aD 63, aI 0, aI 0, aI 0, aD 64, aD 65, aI 0, aD 66, aI 0, aD 67, aD 68, aI 0, aD 69, aI 0, aD 70, aD 71]) := (hget_push (show 52 < G147_.1.length by rw [gf362]; omega)).trans gf363
-- cls G107_ x10 G146_ last G148_ top ['gl0', 'gf1', 'gc23', 'bC_v', 'tl0', 'gf243', 'gf244', 'gc24', 'bC_v', 'tl0', 'gf359', 'gf361', 'gf362', 'gf364']

/**
 * Each sentence of the document that names a boundary (too small, too large, empty, full, a wrap-around,
 * a refused call) by a case of its own: where it stands, its words, and a run of calls on a new object
 * (Runs tells how a run is written, and what each run shows besides its answers).
 */
public final class BoundaryTest {
    /** All cells in fog as bits. */
    private static final int ALL = (1 << 24) - 1;
    /** To HOUR 999. */
    private static final String TO_999 = " 16*hours(60) hours(39) ";
    /** AIR 9 everywhere in each HOUR. */
    private static final String FOGGY = " blows(2,9,0) ";

    private static int cases = 0;
    private static int wrong = 0;

    private static void edge(String where, String words, String run) throws ReflectiveOperationException {
        cases++;
        for (String fault : Runs.faultsOf(run)) {
            wrong++;
            System.out.println(where + ", \"" + words + "\": " + fault + ", in " + run);
        }
    }

    public static void main(String[] args) throws ReflectiveOperationException {
        cells();
        airOfSorts();
        airOfChangers();
        fog();
        kinds();
        goals();
        mayTake();
        anHour();
        anHoursSteps();
        letters();
        statements();
        coasts();
        newObject();
        whatIsThere();
        whatComes();
        whatIsChanged();
        hours();
        takenBack();
        noneLeft();
        inMind();
        behind999();
        when();
        firstAndClears();
        sixtyHoursOn();
        stand();
        kettle();
        without();
        swap();
        whatKind();
        whichFront();
        two();
        sun();
        islands();
        clearRunAndAlike();
        way();
        share();
        sights();
        kindsAndRow();
        judge();
        lots();
        image();
        counts();
        extremes();
        System.out.println(wrong == 0 ? cases + " boundary cases hold" : wrong + " answers are not as due");
        if (wrong != 0) {
            System.exit(1);
        }
    }

    // ---- Terms I: cells and air ----

    private static void cells() throws ReflectiveOperationException {
        edge("I", "CELLS 0 .. 23", "cell(0,0)=0 cell(23,0)=0 cell(-1,0)=-1 cell(24,0)=-1");
        edge("I", "row CELL over 6, cut", "blows(1,5,0) cell(5,0)=5 cell(6,0)=0");
        edge("I", "row CELL over 6, cut", "blows(1,5,3) cell(17,0)=0 cell(18,0)=5 cell(23,0)=5");
        edge("I", "column CELL modulo 6", "blows(0,5,0) cell(0,0)=5 cell(5,0)=0 cell(6,0)=5 cell(11,0)=0"
                + " cell(12,0)=5 cell(17,0)=0 cell(18,0)=5 cell(23,0)=0");
        edge("I", "THICK (3 at first)", "count(4)=3 blows(2,2,0) cell(0,2)=0 blows(2,3,0) cell(0,2)=1");
        edge("I", "an OWNER (nobody, at first)", FOGGY + "comes(0,0,0) lies(5,0) thing(0,2)=-9");
        edge("I", "a CELL (HOME at first)", "comes(0,0,23) person(0,3)=23 comes(0,0,0) person(1,3)=0");
        edge("I", "HOUR (0 at first)", "count(3)=0 image()=0");
    }

    private static void airOfSorts() throws ReflectiveOperationException {
        edge("I AIR", "0 without FRONTS", "cell(0,0)=0 cell(23,0)=0 fogThen(0,60)=0");
        edge("I BANK", "AHEAD 0 of the first's", "blows(0,0,0) cell(0,0)=0");
        edge("I BANK", "if the column is at most the rest", "blows(0,7,1) fogThen(0,0)=7 fogThen(1,0)=0"
                + " fogThen(1,1)=7 fogThen(2,1)=0 fogThen(2,2)=7 fogThen(3,2)=0");
        edge("I BANK", "the rest begins anew", "blows(0,7,1) fogThen(2,2)=7 fogThen(2,3)=0 fogThen(1,3)=0"
                + " fogThen(0,3)=7 fogThen(1,4)=7 fogThen(2,5)=7 fogThen(2,6)=0");
        edge("I BANK", "b plus 2, b 0", "blows(0,7,0) fogThen(1,0)=0 fogThen(1,1)=7 fogThen(2,1)=0"
                + " fogThen(1,2)=0 fogThen(1,59)=7 fogThen(1,60)=0");
        edge("I BANK", "b plus 2, b 9", "blows(0,7,9) fogThen(5,4)=0 fogThen(5,5)=7 fogThen(5,10)=7"
                + " fogThen(1,11)=0 fogThen(0,11)=7 fogThen(1,12)=7");
        edge("I BANK", "the greater of AHEAD", "blows(2,5,0) blows(0,4,0) cell(0,0)=5 cell(1,0)=5");
        edge("I BANK", "the greater of AHEAD and a", "blows(2,5,0) blows(0,6,0) cell(0,0)=6 cell(1,0)=5");
        edge("I RIVER", "b modulo 4, b 3", "blows(1,7,3) cell(17,0)=0 cell(18,0)=7 cell(0,0)=0");
        edge("I RIVER", "b modulo 4, b 4", "blows(1,7,4) cell(0,0)=7 cell(5,0)=7 cell(6,0)=0 cell(23,0)=0");
        edge("I RIVER", "b modulo 4, b 7", "blows(1,7,7) cell(17,0)=0 cell(18,0)=7");
        edge("I RIVER", "b modulo 4, b 8", "blows(1,7,8) cell(5,0)=7 cell(6,0)=0");
        edge("I RIVER", "b modulo 4, b 9", "blows(1,7,9) cell(5,0)=0 cell(6,0)=7 cell(11,0)=7 cell(12,0)=0");
        edge("I RIVER", "the greater of AHEAD", "blows(2,5,0) blows(1,4,0) cell(0,0)=5 cell(6,0)=5");
        edge("I RIVER", "the greater of AHEAD and a", "blows(2,5,0) blows(1,6,0) cell(0,0)=6 cell(6,0)=5");
        edge("I DEW", "1 more than b, b 0", "blows(2,7,0) fogThen(0,0)=7 fogThen(0,1)=7 fogThen(0,59)=7");
        edge("I DEW", "1 more than b, b 9", "blows(2,7,9) fogThen(0,1)=0 fogThen(0,9)=0 fogThen(0,10)=7"
                + " fogThen(0,11)=0 fogThen(0,60)=7");
        for (int b = 0; b <= 9; b++) {
            edge("I DEW", "HOUR 0 is divided by each number", "blows(2,7," + b + ") cell(0,0)=7 cell(23,0)=7");
        }
        edge("I DEW", "the greater of AHEAD", "blows(1,5,0) blows(2,4,0) cell(0,0)=5 cell(6,0)=4");
        edge("I DEW", "the greater of AHEAD and a", "blows(1,5,0) blows(2,6,0) cell(0,0)=6 cell(6,0)=6");
        edge("I HAAR", "h modulo 6", "blows(3,9,0) fogThen(5,5)=9 fogThen(0,5)=4 fogThen(0,6)=9 fogThen(5,6)=4");
        edge("I HAAR", "how many columns it is from", "blows(3,9,0) fogThen(0,2)=7 fogThen(4,2)=7 fogThen(2,2)=9");
        edge("I HAAR", "0 at least", "blows(3,5,0) cell(4,0)=1 cell(5,0)=0");
        edge("I HAAR", "0 at least, a less", "blows(3,4,0) cell(3,0)=1 cell(4,0)=0 cell(5,0)=0");
        edge("I HAAR", "0 at least, a 0", "blows(3,0,9) cell(0,0)=0 cell(5,0)=0");
        edge("I HAAR", "the greater of AHEAD", "blows(2,5,0) blows(3,6,0) cell(0,0)=6 cell(1,0)=5 cell(2,0)=5");
    }

    private static void airOfChangers() throws ReflectiveOperationException {
        edge("I LIFT", "AHEAD 0 of the first's", "blows(4,0,0) cell(0,0)=0");
        edge("I LIFT", "0 at least, of the first's", "blows(4,9,0) cell(0,0)=0 blows(2,1,0) cell(0,0)=1");
        edge("I LIFT", "a less than AHEAD", "blows(2,5,0) blows(4,4,0) cell(0,0)=1");
        edge("I LIFT", "0 at least, a as AHEAD", "blows(2,5,0) blows(4,5,0) cell(0,0)=0");
        edge("I LIFT", "0 at least, a above AHEAD", "blows(2,5,0) blows(4,6,0) cell(0,0)=0");
        edge("I LIFT", "a 0", "blows(2,5,0) blows(4,0,0) cell(0,0)=5");
        edge("I MIRROR", "AHEAD 0 of the first's", "blows(5,9,9) cell(0,0)=0 cell(5,0)=0");
        edge("I MIRROR", "column 5 less its column", "blows(3,9,0) blows(5,0,0) cell(5,0)=9 cell(0,0)=4 cell(2,0)=6"
                + " cell(3,0)=7");
        edge("I MIRROR", "in its row", "blows(1,9,1) blows(5,0,0) cell(5,0)=0 cell(6,0)=9 cell(11,0)=9 cell(12,0)=0");
        edge("I LATER", "AHEAD 0 of the first's", "blows(6,9,9) fogThen(0,0)=0 fogThen(0,60)=0");
        edge("I LATER", "in HOUR 0, if that is below 0", "blows(3,9,0) blows(6,0,9) fogThen(0,0)=9 fogThen(0,8)=9");
        edge("I LATER", "b HOURS earlier, HOUR 0", "blows(3,9,0) blows(6,0,9) fogThen(0,9)=9 fogThen(0,10)=8");
        edge("I LATER", "b 1", "blows(3,9,0) blows(6,0,1) fogThen(0,0)=9 fogThen(0,1)=9 fogThen(0,2)=8");
        edge("I LATER", "b 0", "blows(3,9,0) blows(6,9,0) fogThen(0,0)=9 fogThen(0,1)=8");
        edge("I LATER", "below 0 by two", "blows(3,9,0) blows(6,0,9) blows(6,0,1) fogThen(0,5)=9 fogThen(0,10)=9"
                + " fogThen(0,11)=8");
        edge("I LATER", "those behind it tell their HOUR's", "blows(6,0,9) blows(3,9,0) fogThen(0,1)=8");
        edge("I AIR", "that of the last FRONT, of 6", "blows(2,9,0) 4*blows(4,1,0) blows(4,2,0) cell(0,0)=3");
    }

    private static void fog() throws ReflectiveOperationException {
        edge("I FOG", "the greatest of AIR and STEAM, AIR less", "blows(2,4,0) comes(3,0,4) cell(4,1)=5 cell(4,0)=4"
                + " cell(5,1)=4");
        edge("I FOG", "the greatest of AIR and STEAM, AIR more", "blows(2,6,0) comes(3,0,4) cell(4,1)=6");
        edge("I FOG", "the STEAM of each, the first greater", "comes(4,9,4) comes(3,0,4) cell(4,1)=9");
        edge("I FOG", "the STEAM of each, the last greater", "comes(3,0,4) comes(4,9,4) cell(4,1)=9");
        edge("I FOG", "the STEAM of PEOPLE on it", "comes(3,0,4) stands(0,5) cell(4,1)=0 cell(5,1)=5");
        edge("I IN FOG", "THICK or more", "blows(2,5,0) thick(5) cell(0,2)=1 thick(6) cell(0,2)=0");
        edge("I IN FOG", "THICK 1", "thick(1) cell(0,2)=0 count(9)=0 blows(2,1,0) cell(0,2)=1 count(9)=" + ALL);
        edge("I IN FOG", "THICK 9", "thick(9) blows(2,8,0) cell(0,2)=0 blows(2,9,0) cell(0,2)=1");
        edge("I IN FOG", "by STEAM of THICK", "comes(3,0,4) thick(5) cell(4,2)=1 thick(6) cell(4,2)=0");
        edge("I AIR", "HOUR 64 is not HOUR 0", "blows(3,9,0) cell(0,0)=9 hours(60) hours(4) cell(0,0)=5");
    }

    // ---- Terms I: kinds ----

    /** For each KIND what is due for FIGURE 0 .. 9. */
    private static void kinds() throws ReflectiveOperationException {
        String[] paces = {"1111111111", "2222222222", "2222222222", "0000000000",
            "2222222222", "1112223334", "0001112223", "3333333333"};
        String[] grabs = {"1111111111", "1122334455", "2233445566", "1111111111",
            "3333333333", "0123456789", "0000000000", "2233445566"};
        String[] steams = {"0000000000", "0000000000", "0000000000", "5555555555",
            "5566778899", "0000000000", "3333333333", "0000000000"};
        for (int kind = 0; kind < 8; kind++) {
            for (int figure = 0; figure <= 9; figure++) {
                String him = "comes(" + kind + "," + figure + ",0)=0 ";
                edge("I PACE", "FIGURE over 3, cut", him + "person(0,4)=" + paces[kind].charAt(figure));
                edge("I GRABS", "FIGURE over 2, cut", him + "person(0,5)=" + grabs[kind].charAt(figure));
                edge("I STEAM", "FIGURE over 2, cut", him + "person(0,6)=" + steams[kind].charAt(figure));
            }
        }
    }

    private static void goals() throws ReflectiveOperationException {
        edge("I GOAL", "CHILD: of several the least", "comes(1,0,10) stands(0,7) lies(0,9) lies(0,8) lies(0,6)"
                + " person(0,7)=8");
        edge("I GOAL", "CHILD: rows and columns, together", "comes(1,0,0) lies(0,18) lies(0,2) person(0,7)=2");
        edge("I GOAL", "CHILD: a row is as far as a column", "comes(1,0,0) lies(0,7) lies(0,2) person(0,7)=7");
        edge("I GOAL", "CHILD: no way round the edge", "comes(1,0,0) lies(0,5) lies(0,18) person(0,7)=18");
        edge("I GOAL", "CHILD: from the last row", "comes(1,0,18) lies(0,0) lies(0,20) person(0,7)=20");
        edge("I GOAL", "CHILD: from the last column", "comes(1,0,5) lies(0,0) lies(0,22) person(0,7)=22 lies(0,1)"
                + " person(0,7)=22 lies(0,2) person(0,7)=2");
        edge("I GOAL", "CHILD: the last of 8", "comes(1,0,0) 7*lies(0,23) lies(0,1) person(0,7)=1");
        edge("I GOAL", "THIEF: the last of 8", "comes(2,0,0) 7*lies(8,23) lies(9,1) person(0,7)=1");
        edge("I GOAL", "CHILD: the nearest where he is", "comes(1,0,10) stands(0,7) lies(0,8) lies(0,7) person(0,7)=7");
        edge("I GOAL", "CHILD: a MAN's if there is none", "comes(1,0,10) stands(0,7) person(0,7)=10 lies(9,8)"
                + " owns(0,0) person(0,7)=10");
        edge("I GOAL", "THIEF: the greatest WORTH, of several the least",
                "comes(2,0,10) lies(8,1) lies(9,2) lies(9,3) person(0,7)=2");
        edge("I GOAL", "THIEF: that isn't his", "comes(2,0,10) lies(8,1) lies(9,2) lies(9,3)"
                + " owns(1,0) person(0,7)=3 owns(2,0) person(0,7)=1");
        edge("I GOAL", "THIEF: a CHILD's if there is none", "comes(2,0,10) person(0,7)=10 lies(9,1) owns(0,0)"
                + " person(0,7)=10");
        edge("I GOAL", "THIEF: WORTH 0", "comes(2,0,10) lies(0,4) person(0,7)=4");
        edge("I GOAL", "THIEF: whether he MAY TAKE it or not",
                "comes(2,0,10) comes(0,0,0) lies(3,5) lies(9,4) owns(1,1) person(0,7)=4");
        edge("I GOAL", "LAWYER: of several the least", "blows(1,5,2) comes(5,0,3) person(0,7)=12");
        edge("I GOAL", "LAWYER: no AIR", "comes(5,0,3) comes(3,0,9) person(0,7)=0");
        edge("I GOAL", "LAWYER: the last CELL", "blows(0,9,4) blows(4,1,0) blows(1,9,3) blows(0,9,4) blows(5,0,0)"
                + " blows(4,8,0) comes(5,0,3) person(0,7)=4");
        edge("I GOAL", "LAWYER: AIR of the HOUR that comes", "blows(3,9,0) comes(5,0,3) person(0,7)=1 hours(5)"
                + " person(0,7)=0");
        edge("I GOAL", "JUDGE as a LAWYER", "blows(1,5,3) comes(6,0,3) person(0,7)=18");
        edge("I GOAL", "DUKE: odd, even, odd HOURS", "comes(7,0,10) lies(9,4) person(0,7)=10"
                + " hours(1) person(0,7)=4 hours(1) person(0,7)=10");
        edge("I GOAL", "WIDOW, BREWER: HOME", "comes(3,0,10) comes(4,0,11) stands(0,0) stands(1,0) lies(9,1)"
                + " person(0,7)=10 person(1,7)=11");
        edge("4", "GOAL as all is now", "comes(1,0,10) lies(0,4) owns(0,0) person(0,7)=10");
    }

    /** The man (0) owns what lies at the other's; the other acts in HOUR 1. */
    private static void taking(String words, int kind, int figure, int worth, int owner)
            throws ReflectiveOperationException {
        edge("I MAY TAKE", words, FOGGY + "comes(0,0,23) comes(" + kind + "," + figure + ",0) lies(" + worth
                + ",0) owns(0,0) hours(1)=1 thing(0,2)=" + owner);
    }

    private static void mayTake() throws ReflectiveOperationException {
        taking("THIEF: WORTH below FIGURE", 2, 5, 4, 1);
        taking("THIEF: WORTH as FIGURE", 2, 5, 5, 0);
        taking("THIEF: WORTH 0, FIGURE 0", 2, 0, 0, 0);
        taking("THIEF: WORTH 0, FIGURE 1", 2, 1, 0, 1);
        taking("THIEF: WORTH 8, FIGURE 9", 2, 9, 8, 1);
        taking("THIEF: WORTH 9, FIGURE 9", 2, 9, 9, 0);
        taking("DUKE: WORTH at most FIGURE", 7, 5, 5, 1);
        taking("DUKE: WORTH above FIGURE", 7, 5, 6, 0);
        taking("DUKE: WORTH 0, FIGURE 0", 7, 0, 0, 1);
        taking("DUKE: WORTH 1, FIGURE 0", 7, 0, 1, 0);
        taking("DUKE: WORTH 9, FIGURE 9", 7, 9, 9, 1);
        for (int kind : new int[] {0, 1, 3, 4, 5, 6}) {
            taking("others not what is another's, KIND " + kind, kind, 9, 0, 0);
        }
        edge("I MAY TAKE", "all what is nobody's", FOGGY + "comes(2,0,0) lies(9,0) hours(1)=1 thing(0,2)=0");
        edge("I MAY TAKE", "all what is nobody's, MAN", FOGGY + "comes(0,0,0) lies(9,0) hours(1)=1 thing(0,2)=0");
    }

    // ---- Terms I: an hour ----

    private static void anHour() throws ReflectiveOperationException {
        edge("I AN HOUR", "HOUR is 1 more, ahead of all", "blows(2,9,1) comes(0,0,23) lies(5,0) owns(0,0) hours(1)=0"
                + " hours(1)=0");
        edge("I AN HOUR", "THINGS on CLEAR CELLS are nobody's, his who is there",
                "comes(0,0,0) lies(5,0) owns(0,0)=-9 thing(0,2)=0 hours(1)=0 thing(0,2)=-9");
        edge("I AN HOUR", "FOG is THICK: it stays owned", "blows(2,3,0) comes(0,0,23) lies(5,0) owns(0,0) hours(1)=1");
        edge("I AN HOUR", "FOG is 1 less than THICK", "blows(2,2,0) comes(0,0,23) lies(5,0) owns(0,0) hours(1)=0");
        edge("I AN HOUR", "nobody's, then PEOPLE", "comes(4,0,0) comes(0,0,23) stands(0,1) lies(5,0) owns(0,1)"
                + " hours(1)=1 thing(0,2)=0");
        edge("I AN HOUR", "it is kept by STEAM ahead of who goes", "comes(4,0,23) stands(0,0) comes(0,0,12) lies(5,0)"
                + " owns(0,1)"
                + " hours(1)=1 hours(1)=0");
        edge("I AN HOUR", "PEOPLE by numbers", FOGGY + "comes(0,0,0) comes(0,0,0) lies(5,0) hours(1)=1 thing(0,2)=0");
        edge("I AN HOUR", "if his CELL is IN FOG: THICK", "blows(2,3,0) comes(0,0,0) lies(5,0) hours(1)=1");
        edge("I AN HOUR", "if his CELL is IN FOG: 1 less", "blows(2,2,0) comes(0,0,0) lies(5,0) hours(1)=0");
        edge("I AN HOUR", "looked at as all stand then: who has not gone yet",
                "comes(0,0,0) comes(4,0,23) stands(1,0) lies(5,0) hours(1)=1 hours(1)=0");
        edge("I AN HOUR", "looked at as all stand then: who has gone",
                "comes(4,0,23) stands(0,0) comes(0,0,0) lies(5,0) hours(1)=0");
        edge("I AN HOUR", "the first GRABS", FOGGY + "comes(1,2,0) lies(1,0) lies(1,1) lies(1,0) lies(1,0)"
                + " hours(1)=2 thing(0,2)=0 thing(2,2)=0 thing(3,2)=-9");
        edge("I AN HOUR", "as many as there are", FOGGY + "comes(1,9,0) lies(1,0) lies(1,0) hours(1)=2");
        edge("I AN HOUR", "as many as there are: none", FOGGY + "comes(1,9,0) lies(1,23) hours(1)=0");
        edge("I AN HOUR", "GRABS of all 8", FOGGY + "comes(5,8,0) 8*lies(1,0) hours(1)=8");
        edge("I AN HOUR", "GRABS 0", FOGGY + "comes(5,0,0) comes(6,9,0) lies(1,0) hours(1)=0");
        edge("I AN HOUR", "that aren't his", FOGGY + "comes(0,0,0) lies(1,0) lies(1,0) owns(0,0) hours(1)=2"
                + " thing(1,2)=0");
        edge("I AN HOUR", "those that he MAY TAKE", FOGGY + "comes(0,0,0) comes(0,0,23) lies(1,0) lies(1,0) owns(0,1)"
                + " hours(1)=2 thing(0,2)=1 thing(1,2)=0");
    }

    private static void anHoursSteps() throws ReflectiveOperationException {
        edge("I AN HOUR", "1 CELL nearer: a row, if the row is another", "comes(0,0,7) stands(0,0) hours(1)"
                + " person(0,3)=6 hours(1) person(0,3)=7");
        edge("I AN HOUR", "a row nearer, upwards", "comes(0,0,16) stands(0,23) hours(1) person(0,3)=17 hours(1)"
                + " person(0,3)=16");
        edge("I AN HOUR", "else a column nearer, to the left", "comes(0,0,0) stands(0,5) hours(1) person(0,3)=4");
        edge("I AN HOUR", "not over a row's end, downwards", "comes(0,0,6) stands(0,5) hours(1) person(0,3)=11"
                + " hours(1) person(0,3)=10");
        edge("I AN HOUR", "not over a row's end, upwards", "comes(0,0,5) stands(0,6) hours(1) person(0,3)=0 hours(1)"
                + " person(0,3)=1");
        edge("I AN HOUR", "PACE times, his GOAL at most: a column", "comes(7,0,1) stands(0,0) hours(1) person(0,3)=1");
        edge("I AN HOUR", "PACE times, his GOAL at most: a row", "comes(7,0,6) stands(0,0) hours(1) person(0,3)=6");
        edge("I AN HOUR", "PACE times: rows and columns", "comes(7,0,13) stands(0,0) hours(1) person(0,3)=13");
        edge("I AN HOUR", "PACE 0", "comes(3,9,0) stands(0,5) comes(6,2,5) hours(60) person(0,3)=5 person(1,3)=5");
        edge("I AN HOUR", "at his GOAL he stays", "comes(0,0,23) comes(0,0,0) hours(60) person(0,3)=23 person(1,3)=0");
        edge("I AN HOUR", "all his steps to one GOAL", "comes(1,0,0) lies(5,1) lies(5,2) hours(1) person(0,3)=1");
        edge("I AN HOUR", "GOAL told as he sets out", FOGGY + "comes(0,0,1) comes(1,0,0) lies(5,1) lies(5,12)"
                + " hours(1)=2 person(1,3)=12");
        edge("I AN HOUR", "a LAWYER's is by AIR of the HOUR that has come", "blows(3,9,0) comes(5,9,5) hours(1)"
                + " person(0,3)=1");
        edge("I AN HOUR", "DUKE in HOUR 1 and 2", "comes(7,0,0) lies(9,20) hours(1) person(0,3)=0 hours(1)"
                + " person(0,3)=18");
    }

    // ---- Terms I: a coast in letters ----

    private static void letters() throws ReflectiveOperationException {
        edge("3", "at least one STATEMENT", "coast()=-1000 count(6)=0");
        String[] statements = {"f091;", "p0507;", "t503;", "k3;", "o09;", "m007;", "h01;"};
        for (String statement : statements) {
            for (int n = 1; n < statement.length(); n++) {
                String start = statement.substring(0, n);
                edge("3", "the end, if something lacks", "'" + start + "' coast()=" + (-1000 - n) + " count(6)=0");
                edge("3", "the end, if something lacks, behind a STATEMENT", "'k3;" + start + "'"
                + " coast()=" + (-1003 - n));
                for (String letter : new String[] {"x", "/", ":", n < statement.length() - 1 ? ";" : "0"}) {
                    edge("3", "the place of the first letter with which no COAST can go on",
                            "'" + start + letter + statement.substring(n + 1) + "k3;' coast()=" + (-1000 - n)
                            + " count(6)=0");
                }
            }
            String upper = statement.substring(0, 1).toUpperCase() + statement.substring(1);
            edge("3", "no other letter begins a STATEMENT", "'" + upper + "' coast()=-1000");
            edge("3", "no other letter begins a STATEMENT, behind one", "'k3;" + upper + "' coast()=-1003");
        }
        int[] others = {0, ' ', '0', '9', ';', 'e', 'g', 'l', 'n', 'q', 's', 'u', 127, 128, 'f' + 128, 255};
        for (int letter : others) {
            edge("3", "no other letter begins a STATEMENT", "feed(" + letter + ")=1 coast()=-1000");
        }
        edge("3", "a digit is 0 .. 9", "'k' feed(185) 'k3;' coast()=-1001");
        edge("3", "kind 1, else kind 2", "'k0;k' coast()=-1004");
        edge("3", "kind 1, else kind 2, in one STATEMENT", "'f7' coast()=-1002");
        edge("3", "the first of two letters", "'k3;x;y' coast()=-1003");
        StringBuilder full = new StringBuilder();
        for (int i = 0; i < 32; i++) {
            full.append("k3;");
        }
        edge("3", "96 at most: all a COAST", "'" + full + "' count(6)=96 coast()=32 count(6)=0");
        edge("3", "96 at most: the last wrong", "'" + full.substring(0, 95) + "x' coast()=-1095");
        edge("3", "96 at most: one lacks of 95", "'" + full.substring(0, 95) + "' coast()=-1095");
        edge("3", "96 at most: one lacks of 96", "'" + full.substring(0, 93) + "o00' coast()=-1096");
        edge("3", "96 at most: all but its letter lack", "'" + full.substring(0, 90) + "t100;k' coast()=-1096");
        edge("3", "96 at most: the last STATEMENT not as it must be", "'" + full.substring(0, 93) + "k0;'"
                + " coast()=-2093 count(6)=0");
        edge("3", "those refused are no letters", "'" + full.substring(0, 93) + "k9;' feed(59)=-6 coast()=32"
                + " count(4)=9");
        edge("3", "the letters are no more then: all can come anew", "'" + full + "' coast()=32 '" + full + "'"
                + " coast()=32");
        edge("3", "with a FAULT neither: all can come anew", "'x' coast()=-1000 '" + full + "' coast()=32");
        edge("3", "with a FAULT of kind 2 neither", "'k0;' coast()=-2000 'k3;' coast()=1");
        edge("3", "the letters are no more then: none lacks less", "'k3;' coast()=1 'k4' coast()=-1002 'k'"
                + " coast()=-1001 'f' coast()=-1001"
                + " coast()=-1000 count(2)=0 count(4)=3");
        edge("3", "with a FAULT neither: none lacks less", "'k3;x' coast()=-1003 'k4' coast()=-1002 'k0;'"
                + " coast()=-2000 'k4' coast()=-1002");
    }

    private static void statements() throws ReflectiveOperationException {
        edge("3", "SORT 0 .. 6, a and b 0 .. 9", "'f099;f690;' coast()=2 front(0,0)=0 front(0,1)=9 front(0,2)=9"
                + " front(1,0)=6 front(1,1)=9 front(1,2)=0");
        edge("3", "SORT 7", "'f700;' coast()=-2000 count(2)=0");
        edge("3", "SORT 9", "'k3;f900;' coast()=-2003 count(2)=0");
        edge("3", "KIND 0 .. 7, FIGURE 0 .. 9, HOME 0 .. 23", "'p0923;p7000;' coast()=2 person(0,1)=9 person(0,2)=23"
                + " person(0,3)=23"
                + " person(1,0)=7 person(1,1)=0 person(1,2)=0");
        edge("3", "KIND 8", "'p8000;' coast()=-2000 count(0)=0");
        edge("3", "KIND 9", "'p9000;' coast()=-2000 count(0)=0");
        edge("3", "HOME 24", "'p0024;' coast()=-2000 count(0)=0");
        edge("3", "HOME 99", "'p0099;' coast()=-2000 count(0)=0");
        edge("3", "WORTH 0 .. 9, CELL 0 .. 23", "'t023;t900;' coast()=2 thing(0,0)=0 thing(0,1)=23 thing(0,2)=-9"
                + " thing(1,0)=9 thing(1,1)=0");
        edge("3", "CELL 24 of a THING", "'t024;' coast()=-2000 count(1)=0");
        edge("3", "CELL 99 of a THING", "'t099;' coast()=-2000 count(1)=0");
        edge("3", "THICK 1", "'k1;' coast()=1 count(4)=1");
        edge("3", "THICK 9", "'k9;' coast()=1 count(4)=9");
        edge("3", "THICK 0", "'k0;' coast()=-2000 count(4)=3");
        edge("3", "no such THING, none there", "'o09;' coast()=-2000");
        edge("3", "no such THING, one there", "lies(0,0) 'o19;' coast()=-2000 'o09;' coast()=1");
        edge("3", "no such THING, 8 there", "8*lies(0,0) comes(0,0,0) 'o80;' coast()=-2000 'o90;' coast()=-2000"
                + " 'o70;' coast()=1 thing(7,2)=0");
        edge("3", "no such one as OWNER", "lies(0,0) 'o00;' coast()=-2000 comes(0,0,0) 'o01;' coast()=-2000 'o00;'"
                + " coast()=1 thing(0,2)=0");
        edge("3", "no such one as OWNER, 5 there", "lies(0,0) 5*comes(0,0,0) 'o05;' coast()=-2000 'o08;'"
                + " coast()=-2000 'o04;' coast()=1 thing(0,2)=4");
        edge("3", "9 nobody", "lies(0,0) 5*comes(0,0,0) owns(0,4) 'o09;' coast()=1 thing(0,2)=-9 'o09;' coast()=1"
                + " thing(0,2)=-9");
        edge("3", "no such one to be there", "'m000;' coast()=-2000 comes(0,0,0) 'm100;' coast()=-2000 'm900;'"
                + " coast()=-2000 'm023;' coast()=1 person(0,3)=23");
        edge("3", "m CELL 24", "comes(0,0,5) 'm024;' coast()=-2000 'm099;' coast()=-2000 person(0,3)=5");
        edge("3", "m CELL 0", "comes(0,0,5) 'm000;' coast()=1 person(0,3)=0 person(0,2)=5");
        edge("3", "HOURS 1", "'h01;' coast()=1 count(3)=1");
        edge("3", "HOURS 60", "'h60;' coast()=1 count(3)=60");
        edge("3", "HOURS 0", "'h00;' coast()=-2000 count(3)=0");
        edge("3", "HOURS 61", "'h61;' coast()=-2000 count(3)=0");
        edge("3", "HOURS 99", "'h99;' coast()=-2000 count(3)=0");
        edge("3", "HOUR 999", "15*hours(60) hours(39) 'h60;' coast()=1 count(3)=999");
        edge("3", "HOUR above 999", "15*hours(60) hours(40) 'h60;' coast()=-2000 count(3)=940 'h59;' coast()=1"
                + " count(3)=999");
        edge("3", "HOUR above 999 behind those ahead", "15*hours(60) hours(39) 'h59;h01;h01;' coast()=-2008"
                + " count(3)=939 'h59;h01;' coast()=2");
        edge("3", "HOUR above 999 at 999", TO_999 + "'h01;' coast()=-2000 count(3)=999");
        edge("3", "no room: FRONTS", "'f000;f000;f000;f000;f000;f000;' coast()=6 'f000;' coast()=-2000 count(2)=6");
        edge("3", "no room: FRONTS behind those ahead", "blows(0,0,0) 'f000;f000;f000;f000;f000;f000;' coast()=-2025"
                + " count(2)=1");
        edge("3", "no room: PEOPLE", "'p0000;p0000;p0000;p0000;p0000;' coast()=5 'p0000;' coast()=-2000 count(0)=5");
        edge("3", "no room: PEOPLE behind those ahead", "comes(0,0,0) 'p0000;p0000;p0000;p0000;p0000;' coast()=-2024"
                + " count(0)=1");
        edge("3", "no room: THINGS", "'t000;t000;t000;t000;t000;t000;t000;t000;' coast()=8 't000;' coast()=-2000"
                + " count(1)=8");
        edge("3", "no room: THINGS behind those ahead", "lies(0,0) 't000;t000;t000;t000;t000;t000;t000;t000;'"
                + " coast()=-2035 count(1)=1");
    }

    private static void coasts() throws ReflectiveOperationException {
        edge("3", "how many STATEMENTS: one", "'k3;' coast()=1");
        edge("3", "behind all ahead of it: who comes there", "'p0000;m005;' coast()=2 person(0,3)=5");
        edge("3", "behind all ahead of it: who comes later", "'m005;p0000;' coast()=-2000 count(0)=0");
        edge("3", "behind all ahead of it: what comes there", "'t100;p0000;o00;' coast()=3 thing(0,2)=0");
        edge("3", "behind all ahead of it: what comes later", "'p0000;o00;t100;' coast()=-2006 count(0)=0 count(1)=0");
        edge("3", "behind all ahead of it: HOURS by a THICK told", "'f230;p0000;t500;k4;h01;k3;h01;' coast()=7"
                + " thing(0,2)=0");
        edge("3", "the first STATEMENT that is not as it must be", "'k3;k0;f700;' coast()=-2003");
        edge("3", "with one nothing: FRONT, PEOPLE, THING", "'f091;p0000;t000;k0;' coast()=-2016 count(0)=0"
                + " count(1)=0 count(2)=0");
        edge("3", "with one nothing: THICK, OWNER, CELL, HOURS", "comes(0,0,5) lies(1,1) 'k9;o00;m007;h05;k0;'"
                + " coast()=-2016"
                + " count(3)=0 count(4)=3 thing(0,2)=-9 person(0,3)=5");
        edge("3", "nothing is counted", "'x' coast()=-1000 'k0;' coast()=-2000 count(11)=0 count(12)=0 count(13)=0"
                + " count(14)=0 count(15)=0 count(16)=0");
        edge("3", "all of it comes, to what is there", "blows(2,9,0) comes(0,0,5) lies(1,5) 'f000;p7923;t923;'"
                + " coast()=3"
                + " count(0)=2 count(1)=2 count(2)=2 front(0,0)=2 person(0,2)=5 thing(0,1)=5 person(1,2)=23"
                + " thing(1,1)=23");
        edge("3", "the letters: the ROW and the image stay", "image() row(5) 'k9;' coast()=1 count(7)=1 restore()=0"
                + " count(4)=3");
    }

    // ---- Promises 1, 2, 4 .. 7 ----

    private static void newObject() throws ReflectiveOperationException {
        edge("1", "no FRONTS, nobody, nothing", "count(0)=0 count(1)=0 count(2)=0 front(0,0)=-1 person(0,0)=-1"
                + " thing(0,0)=-1");
        edge("1", "a clear COAST", "count(9)=0 islands(-1)=0 cell(0,2)=0 cell(23,2)=0 clearRun()=60");
        edge("1", "nothing to be TAKEN BACK, RESTORED, no letters, no ROW", "count(8)=0 back()=-3 restore()=-3"
                + " count(6)=0 count(7)=0");
        edge("2", "-4", "feed(-1)=-4 feed(MIN)=-4 count(6)=0");
        edge("2", "-6 (255)", "feed(256)=-6 feed(MAX)=-6 count(6)=0");
        edge("2", "a letter is 0 .. 255", "feed(0)=1 feed(255)=2 count(6)=2");
        edge("2", "-6 (96, too)", "95*feed(107) feed(107)=96 feed(107)=-6 count(6)=96");
        edge("2", "-4 ahead of -6", "96*feed(107) feed(-1)=-4 feed(256)=-6");
    }

    private static void whatIsThere() throws ReflectiveOperationException {
        edge("4", "-1: nobody is there", "person(0,0)=-1 person(-1,0)=-1 person(MIN,0)=-1 person(MAX,0)=-1");
        edge("4", "-1: of 5", "5*comes(0,0,0) person(4,0)=0 person(5,0)=-1 person(-1,0)=-1");
        edge("4", "-2", "comes(0,0,0) person(0,8)=0 person(0,9)=-2 person(0,-1)=-2 person(0,MIN)=-2 person(0,MAX)=-2");
        edge("4", "-1 ahead of -2", "person(0,9)=-1 person(-1,-1)=-1");
        edge("4", "WORTHS he owns: none", "comes(0,0,0) comes(0,0,0) lies(9,0) person(0,8)=0 owns(0,1) person(0,8)=0");
        edge("4", "WORTHS he owns: all", "comes(0,0,0) 8*lies(9,0) owns(0,0) owns(1,0) owns(2,0) owns(3,0) owns(4,0)"
                + " owns(5,0) owns(6,0)"
                + " person(0,8)=63 owns(7,0) person(0,8)=72");
        edge("5", "-1: nothing is there", "thing(0,0)=-1 thing(-1,0)=-1 thing(MIN,0)=-1 thing(MAX,0)=-1");
        edge("5", "-1: of 8", "8*lies(7,0) thing(7,0)=7 thing(8,0)=-1 thing(-1,0)=-1");
        edge("5", "-2", "lies(7,0) thing(0,2)=-9 thing(0,3)=-2 thing(0,-1)=-2 thing(0,MIN)=-2 thing(0,MAX)=-2");
        edge("5", "-1 ahead of -2", "thing(0,3)=-1");
        edge("5", "OWNER; -9", "lies(7,0) 5*comes(0,0,0) thing(0,2)=-9 owns(0,0) thing(0,2)=0 owns(0,4) thing(0,2)=4");
        edge("6", "-1: none is there", "front(0,0)=-1 front(-1,0)=-1 front(MIN,0)=-1 front(MAX,0)=-1");
        edge("6", "-1: of 6", "6*blows(5,7,8) front(5,0)=5 front(5,1)=7 front(5,2)=8 front(6,0)=-1 front(-1,0)=-1");
        edge("6", "-2", "blows(5,7,8) front(0,2)=8 front(0,3)=-2 front(0,-1)=-2 front(0,MIN)=-2 front(0,MAX)=-2");
        edge("6", "-1 ahead of -2", "front(0,3)=-1");
        edge("7", "-1", "cell(-1,1)=-1 cell(24,1)=-1 cell(MIN,0)=-1 cell(MAX,4)=-1");
        edge("7", "-2", "cell(0,4)=0 cell(0,5)=-2 cell(0,-1)=-2 cell(23,MIN)=-2 cell(23,MAX)=-2");
        edge("7", "-1 ahead of -2", "cell(24,5)=-1 cell(-1,-1)=-1");
        edge("7", "PEOPLE on it: all 5, none", "5*comes(0,0,23) cell(23,3)=31 cell(22,3)=0 stands(0,0) cell(23,3)=30"
                + " cell(0,3)=1");
        edge("7", "THINGS on it: all 8, none", "8*lies(0,0) cell(0,4)=255 cell(1,4)=0 carries(7,23) cell(0,4)=127"
                + " cell(23,4)=128");
    }

    // ---- Promises 8 .. 14 ----

    private static void whatComes() throws ReflectiveOperationException {
        edge("8", "-2", "blows(7,0,0)=-2 blows(-1,0,0)=-2 blows(MIN,0,0)=-2 blows(MAX,0,0)=-2 blows(6,0,0)=0"
                + " blows(0,0,0)=1");
        edge("8", "-4 (either): a", "blows(0,-1,0)=-4 blows(0,MIN,0)=-4 blows(0,0,0)=0");
        edge("8", "-4 (either): b", "blows(0,0,-1)=-4 blows(0,0,MIN)=-4 blows(0,0,0)=0");
        edge("8", "-6 (9): a", "blows(0,10,0)=-6 blows(0,MAX,0)=-6 blows(0,9,0)=0 front(0,1)=9");
        edge("8", "-6 (9): b", "blows(0,0,10)=-6 blows(0,0,MAX)=-6 blows(0,0,9)=0 front(0,2)=9");
        edge("8", "-6 (6 there are)", "5*blows(0,0,0) blows(0,0,0)=5 blows(0,0,0)=-6 count(2)=6");
        edge("8", "-2 ahead of -4", "blows(7,-1,0)=-2 blows(-1,0,-1)=-2");
        edge("8", "-2 ahead of -6", "blows(7,10,0)=-2 6*blows(0,0,0) blows(7,0,0)=-2");
        edge("8", "-4 ahead of -6", "blows(0,-1,10)=-4 blows(0,10,-1)=-4 6*blows(0,0,0) blows(0,-1,0)=-4"
                + " blows(0,0,-1)=-4");
        edge("9", "-2", "comes(8,0,0)=-2 comes(-1,0,0)=-2 comes(MIN,0,0)=-2 comes(MAX,0,0)=-2 comes(7,0,0)=0"
                + " comes(0,0,0)=1");
        edge("9", "-4", "comes(0,-1,0)=-4 comes(0,MIN,0)=-4 comes(0,0,0)=0");
        edge("9", "-6 (9)", "comes(0,10,0)=-6 comes(0,MAX,0)=-6 comes(0,9,0)=0 person(0,1)=9");
        edge("9", "-6 (5 there are)", "4*comes(0,0,0) comes(0,0,0)=4 comes(0,0,0)=-6 count(0)=5");
        edge("9", "-1 (the CELL)", "comes(0,0,24)=-1 comes(0,0,-1)=-1 comes(0,0,MIN)=-1 comes(0,0,MAX)=-1"
                + " comes(0,0,23)=0 comes(0,0,0)=1");
        edge("9", "-2 ahead of -4, -6, -1", "comes(8,-1,0)=-2 comes(8,10,0)=-2 comes(8,0,24)=-2 5*comes(0,0,0)"
                + " comes(8,0,0)=-2");
        edge("9", "-4 ahead of -6, -1", "comes(0,-1,24)=-4 5*comes(0,0,0) comes(0,-1,0)=-4");
        edge("9", "-6 ahead of -1", "comes(0,10,24)=-6 5*comes(0,0,0) comes(0,0,24)=-6");
        edge("10", "-4", "lies(-1,0)=-4 lies(MIN,0)=-4 lies(0,0)=0 thing(0,0)=0");
        edge("10", "-6 (9)", "lies(10,0)=-6 lies(MAX,0)=-6 lies(9,0)=0 thing(0,0)=9");
        edge("10", "-6 (8 there are)", "7*lies(0,0) lies(0,0)=7 lies(0,0)=-6 count(1)=8");
        edge("10", "-1 (the CELL)", "lies(0,24)=-1 lies(0,-1)=-1 lies(0,MIN)=-1 lies(0,MAX)=-1 lies(0,23)=0"
                + " lies(0,0)=1");
        edge("10", "-4 ahead of -6, -1", "lies(-1,24)=-4 8*lies(0,0) lies(-1,0)=-4");
        edge("10", "-6 ahead of -1", "lies(10,24)=-6 8*lies(0,0) lies(0,24)=-6");
    }

    private static void whatIsChanged() throws ReflectiveOperationException {
        edge("11", "-4 1", "thick(0)=-4 thick(-1)=-4 thick(MIN)=-4 count(4)=3 thick(1)=3 count(4)=1");
        edge("11", "-6 9", "thick(10)=-6 thick(MAX)=-6 count(4)=3 thick(9)=3 count(4)=9");
        edge("11", "what it was", "thick(3)=3 thick(9)=3 thick(1)=9 thick(1)=1");
        edge("12", "-1 (either): the THING", "comes(0,0,0) owns(0,0)=-1 lies(0,0) owns(1,0)=-1 owns(-1,0)=-1"
                + " owns(MIN,0)=-1 owns(MAX,0)=-1 owns(0,0)=-9");
        edge("12", "-1 (either): the one", "lies(0,0) owns(0,0)=-1 comes(0,0,0) owns(0,1)=-1 owns(0,-2)=-1"
                + " owns(0,-9)=-1 owns(0,9)=-1"
                + " owns(0,MIN)=-1 owns(0,MAX)=-1 owns(0,0)=-9");
        edge("12", "-1 (either): no THING for nobody", "owns(0,-1)=-1 8*lies(0,0) owns(8,-1)=-1 owns(7,-1)=-9");
        edge("12", "-1: nobody", "lies(0,0) comes(0,0,0) owns(0,0)=-9 owns(0,-1)=0 thing(0,2)=-9 owns(0,-1)=-9");
        edge("12", "the old (-9)", "lies(0,0) 5*comes(0,0,0) owns(0,4)=-9 owns(0,0)=4 owns(0,0)=0");
        edge("12", "an OWNER of a THING on a CLEAR CELL", "lies(0,0) comes(0,0,0) owns(0,0)=-9 thing(0,2)=0"
                + " count(5)=1 count(9)=0");
        edge("13", "-1 (either): the one", "stands(0,0)=-1 comes(0,0,5) stands(1,0)=-1 stands(-1,0)=-1"
                + " stands(MIN,0)=-1 stands(MAX,0)=-1 stands(0,0)=5");
        edge("13", "-1 (either): the CELL", "comes(0,0,5) stands(0,24)=-1 stands(0,-1)=-1 stands(0,MIN)=-1"
                + " stands(0,MAX)=-1 stands(0,23)=5 stands(0,0)=23");
        edge("14", "-1 (either): the THING", "carries(0,0)=-1 lies(0,5) carries(1,0)=-1 carries(-1,0)=-1"
                + " carries(MIN,0)=-1 carries(MAX,0)=-1 carries(0,0)=5");
        edge("14", "-1 (either): the CELL", "lies(0,5) carries(0,24)=-1 carries(0,-1)=-1 carries(0,MIN)=-1"
                + " carries(0,MAX)=-1 carries(0,23)=5 carries(0,0)=23");
        edge("14", "its OWNER stays, on a CLEAR CELL too", "lies(0,5) comes(0,0,0) owns(0,0) carries(0,7)=5"
                + " thing(0,2)=0");
    }

    // ---- Promises 15, 16 ----

    private static void hours() throws ReflectiveOperationException {
        edge("15", "-4 1", "hours(0)=-4 hours(-1)=-4 hours(MIN)=-4 count(3)=0 hours(1)=0 count(3)=1");
        edge("15", "-6 (60)", "hours(61)=-6 hours(MAX)=-6 count(3)=0 hours(60)=0 count(3)=60");
        edge("15", "-6 (HOUR above 999)", "15*hours(60) hours(40) hours(60)=-6 count(3)=940 hours(59)=0 count(3)=999");
        edge("15", "HOUR 999", "15*hours(60) hours(39) hours(60)=0 count(3)=999");
        edge("15", "HOUR above 999, at 999", TO_999 + "hours(1)=-6 hours(60)=-6 hours(0)=-4 count(3)=999");
        edge("15", "how many THINGS are owned: none there", "hours(1)=0");
        edge("15", "how many THINGS are owned: all 8", FOGGY + "comes(5,9,0) 8*lies(0,0) hours(1)=8 hours(60)=8");
    }

    private static void takenBack() throws ReflectiveOperationException {
        edge("16", "-3 none", "back()=-3 count(13)=1");
        edge("16", "how many can still be", "thick(4) thick(5) back()=1 back()=0 back()=-3 count(4)=3");
        edge("16", "also if all stays as it was: thick()", "thick(3)=3 count(8)=1 back()=0 back()=-3");
        edge("16", "also if all stays as it was: owns() of nobody", "lies(0,0) owns(0,-1)=-9 count(8)=1 back()=0");
        edge("16", "also if all stays as it was: owns()", "lies(0,0) comes(0,0,0) owns(0,0)=-9 owns(0,0)=0 count(8)=2"
                + " back()=1 thing(0,2)=0 back()=0 thing(0,2)=-9");
        edge("16", "also if all stays as it was: stands()", "comes(0,0,5) stands(0,5)=5 count(8)=1 back()=0");
        edge("16", "also if all stays as it was: carries()", "lies(0,5) carries(0,5)=5 count(8)=1 back()=0");
        edge("16", "each that is not refused: thick()", "thick(0) thick(10) count(8)=0 back()=-3");
        edge("16", "each that is not refused: owns()", "lies(0,0) owns(1,-1) owns(0,0) count(8)=0 back()=-3");
        edge("16", "each that is not refused: stands()", "comes(0,0,0) stands(1,0) stands(0,24) count(8)=0 back()=-3");
        edge("16", "each that is not refused: carries()", "lies(0,0) carries(1,0) carries(0,24) count(8)=0 back()=-3");
        edge("16", "each that is not refused: hours()", "hours(0) hours(61) count(8)=0"
                + " back()=-3" + TO_999 + "hours(1) count(8)=8 back()=7 count(3)=960");
        edge("16", "thick() TAKEN BACK", "thick(9) back()=0 count(4)=3");
        edge("16", "owns() TAKEN BACK", "lies(0,0) comes(0,0,0) owns(0,0) back()=0 thing(0,2)=-9");
        edge("16", "stands() TAKEN BACK", "comes(0,0,5) stands(0,7) stands(0,9) back()=1 person(0,3)=7 back()=0"
                + " person(0,3)=5");
        edge("16", "carries() TAKEN BACK", "lies(0,5) carries(0,7) carries(0,9) back()=1 thing(0,1)=7 back()=0"
                + " thing(0,1)=5");
        edge("16", "hours() TAKEN BACK", FOGGY + "comes(0,0,5) comes(0,0,9) lies(4,5) lies(4,9) stands(0,0) owns(1,0)"
                + " hours(60)=2 person(0,3)=5 thing(0,2)=0 back()=2 count(3)=0 person(0,3)=0 thing(0,2)=-9"
                + " thing(1,2)=0 count(9)=" + ALL);
        edge("16", "8 at most: 8", "thick(1) thick(2) thick(3) thick(4) thick(5) thick(6) thick(7) thick(8) count(8)=8"
                + " 7*back() count(4)=1 back()=0 count(4)=3 back()=-3");
        edge("16", "8 at most (older ones no more): 9", "thick(1) thick(2) thick(3) thick(4) thick(5) thick(6)"
                + " thick(7) thick(8) thick(9)"
                + " count(8)=8 back()=7 count(4)=8 6*back() count(4)=2 back()=0 count(4)=1 back()=-3");
        edge("16", "8 at most (older ones no more): 20", "20*hours(2) count(8)=8 8*back() count(3)=24 back()=-3");
        edge("16", "the latest first, of all five", "comes(0,0,1) lies(0,1) thick(9) owns(0,0) stands(0,2)"
                + " carries(0,3) hours(4)"
                + " back()=4 count(3)=0 thing(0,1)=3 thing(0,2)=0 back()=3 thing(0,1)=1 person(0,3)=2 back()=2"
                + " person(0,3)=1 thing(0,2)=0"
                + " back()=1 thing(0,2)=-9 count(4)=9 back()=0 count(4)=3");
        edge("16", "8 again behind those TAKEN BACK", "9*hours(1) 3*back() count(8)=5 count(3)=6 4*thick(5)"
                + " count(8)=8 5*back() count(3)=5 count(8)=3 3*back() count(3)=2 back()=-3");
        edge("16", "what is TAKEN BACK is no more", "thick(9) back()=0 back()=-3 count(4)=3 thick(5)=3 count(8)=1");
    }

    private static void noneLeft() throws ReflectiveOperationException {
        edge("16", "blows() leaves none", "thick(5) blows(0,0,0)=0 count(8)=0 back()=-3 count(4)=5");
        edge("16", "comes() leaves none", "thick(5) comes(0,0,0)=0 count(8)=0 back()=-3 count(4)=5");
        edge("16", "lies() leaves none", "thick(5) lies(0,0)=0 count(8)=0 back()=-3 count(4)=5");
        edge("16", "a COAST without FAULT leaves none", "thick(5) 'k6;' coast()=1 count(8)=0 back()=-3 count(4)=6");
        edge("16", "restore() leaves none", "image() thick(5) restore()=0 count(8)=0 back()=-3 count(4)=3");
        edge("16", "not blows() refused", "thick(5) blows(7,0,0)=-2 blows(0,-1,0)=-4 blows(0,10,0)=-6 count(8)=1"
                + " back()=0");
        edge("16", "not comes() refused", "thick(5) comes(8,0,0)=-2 comes(0,-1,0)=-4 comes(0,10,0)=-6"
                + " comes(0,0,24)=-1 count(8)=1 back()=0");
        edge("16", "not lies() refused", "thick(5) lies(-1,0)=-4 lies(10,0)=-6 lies(0,24)=-1 count(8)=1 back()=0");
        edge("16", "not blows(), comes(), lies() for lack of room", "6*blows(0,0,0) 5*comes(0,0,0) 8*lies(0,0) thick(5)"
                + " blows(0,0,0)=-6 comes(0,0,0)=-6 lies(0,0)=-6 count(8)=1 back()=0");
        edge("16", "not a COAST with a FAULT", "thick(5) 'x' coast()=-1000 'k6;k0;' coast()=-2003 coast()=-1000"
                + " count(8)=1 back()=0 count(4)=3");
        edge("16", "not restore() refused", "thick(5) restore()=-3 count(8)=1 back()=0");
        edge("16", "not letters, the ROW, the image", "thick(5) feed(0) row(0) judge() row(1) clear() image()"
                + " count(8)=1 back()=0 count(4)=3 count(6)=1");
    }

    // ---- Terms II: n hours on ----

    private static void inMind() throws ReflectiveOperationException {
        edge("17", "-1", "fogThen(24,0)=-1 fogThen(-1,0)=-1 fogThen(MIN,0)=-1 fogThen(MAX,0)=-1 fogThen(23,0)=0"
                + " fogThen(0,0)=0");
        edge("17", "-4", "fogThen(0,-1)=-4 fogThen(0,MIN)=-4 fogThen(0,0)=0");
        edge("17", "-6 60", "fogThen(0,61)=-6 fogThen(0,MAX)=-6 fogThen(0,60)=0");
        edge("17", "-1 ahead of -4, -6", "fogThen(24,-1)=-1 fogThen(24,61)=-1");
        edge("17", "FOG behind 60: STEAM where he is then", "comes(4,0,23) stands(0,0) fogThen(0,0)=5 fogThen(0,1)=0"
                + " fogThen(12,1)=5 fogThen(23,60)=5");
        edge("18", "-4", "then(-1,0)=-4 then(MIN,0)=-4 then(0,0)=0");
        edge("18", "-6 60", "then(61,0)=-6 then(MAX,0)=-6 then(60,0)=0");
        edge("18", "-2", "then(0,3)=-2 then(0,-1)=-2 then(0,MIN)=-2 then(0,MAX)=-2 then(0,2)=0");
        edge("18", "-4, -6 ahead of -2", "then(-1,3)=-4 then(61,3)=-6");
        edge("18", "CELLS IN FOG: all, none", FOGGY + "then(0,0)=" + ALL + " then(60,0)=" + ALL + " blows(4,9,0)"
                + " then(0,0)=0 then(60,0)=0");
        edge("18", "n 0 is now", "blows(2,9,1) comes(0,0,0) lies(5,0) then(0,0)=" + ALL + " then(0,1)=0 then(0,2)=1"
                + " then(1,0)=0 then(2,1)=1 then(2,2)=0");
        edge("18", "n 0: an OWNER in the clear", "comes(0,0,0) lies(5,0) owns(0,0) then(0,1)=1 then(0,2)=0"
                + " then(1,1)=0 then(1,2)=1");
        edge("18", "THINGS nobody's: all 8, none there", "then(0,2)=0 8*lies(0,0) then(0,2)=255 then(60,2)=255"
                + " then(60,1)=0");
        edge("19", "-1", "ownerThen(0,0)=-1 8*lies(0,0) ownerThen(8,0)=-1 ownerThen(-1,0)=-1 ownerThen(MIN,0)=-1"
                + " ownerThen(MAX,0)=-1 ownerThen(7,0)=-9");
        edge("19", "-4", "lies(0,0) ownerThen(0,-1)=-4 ownerThen(0,MIN)=-4 ownerThen(0,0)=-9");
        edge("19", "-6 60", "lies(0,0) ownerThen(0,61)=-6 ownerThen(0,MAX)=-6 ownerThen(0,60)=-9");
        edge("19", "-1 ahead of -4, -6", "ownerThen(0,-1)=-1 ownerThen(0,61)=-1");
        edge("19", "OWNER; -9", "comes(0,0,0) lies(5,0) owns(0,0) ownerThen(0,0)=0 ownerThen(0,1)=-9"
                + " ownerThen(0,60)=-9");
        edge("20", "-1", "personThen(0,0,0)=-1 5*comes(0,0,9) personThen(5,0,0)=-1 personThen(-1,0,0)=-1"
                + " personThen(MIN,0,0)=-1 personThen(MAX,0,0)=-1 personThen(4,0,0)=9");
        edge("20", "-4", "comes(0,0,9) personThen(0,-1,0)=-4 personThen(0,MIN,0)=-4 personThen(0,0,0)=9");
        edge("20", "-6 60", "comes(0,0,9) personThen(0,61,0)=-6 personThen(0,MAX,0)=-6 personThen(0,60,0)=9");
        edge("20", "-2", "comes(0,0,9) personThen(0,0,2)=-2 personThen(0,0,-1)=-2 personThen(0,0,MIN)=-2"
                + " personThen(0,0,MAX)=-2 personThen(0,0,1)=0");
        edge("20", "-1 ahead of -4, -6, -2", "personThen(0,-1,0)=-1 personThen(0,61,0)=-1 personThen(0,0,2)=-1");
        edge("20", "-4, -6 ahead of -2", "comes(0,0,9) personThen(0,-1,2)=-4 personThen(0,61,2)=-6");
        edge("20", "behind 59 and 60", "blows(2,9,9) comes(0,0,0) lies(5,0) personThen(0,59,1)=0 personThen(0,60,1)=5"
                + " ownerThen(0,59)=-9 ownerThen(0,60)=0"
                + " fogThen(0,59)=0 fogThen(0,60)=9 then(59,0)=0 then(60,0)=" + ALL + " then(59,1)=0 then(60,1)=1");
    }

    /** Dew falls in HOUR 1000, 1010 .. 1050. */
    private static void behind999() throws ReflectiveOperationException {
        String setting = " blows(2,7,9) comes(0,0,0) lies(4,0) " + TO_999;
        edge("II", "HOUR may pass 999 there: FOG", setting + "fogThen(0,0)=0 fogThen(0,1)=7 fogThen(0,51)=7"
                + " fogThen(0,60)=0 count(3)=999");
        edge("II", "HOUR may pass 999 there: then()", setting + "then(1,0)=" + ALL + " then(1,1)=1 then(2,1)=0"
                + " then(60,2)=1");
        edge("II", "HOUR may pass 999 there: OWNER, WORTHS", setting + "ownerThen(0,1)=0 ownerThen(0,2)=-9"
                + " personThen(0,1,1)=4 personThen(0,60,1)=0");
        edge("II", "HOUR may pass 999 there: WHEN, FIRST", setting + "when(0,0)=1 first()=0");
        edge("II", "HOUR may pass 999 there: CLEARS", setting + "clears(0)=0 blows(2,7,8) clears(0)=2 blows(2,7,0)"
                + " clears(0)=-9");
        edge("II", "HOUR may pass 999 there: STAND, KETTLE", setting + "stand(0,1,0)=0 stand(0,1,1)=4 stand(0,30,1)=0"
                + " kettle(0,0,1)=0 kettle(0,0,2)=0 kettle(0,0,30)=0");
        edge("II", "HOUR may pass 999 there: WITHOUT", setting + "without(1,0)=0 without(1,1)=0 blows(1,7,0)"
                + " without(1,0)=0 without(1,1)=6 without(60,0)=1 without(60,1)=0");
        edge("II", "HOUR may pass 999 there: SWAP, TWO", setting + "comes(4,0,23) lies(1,0) lies(1,0) swap(1)=1"
                + " two(0,1,1)=0 two(0,1,30)=0");
        edge("II", "HOUR may pass 999 there: SUN", setting + "sun(0,0,1,2,0)=1 sun(0,0,1,2,1)=2 sun(0,0,7,2,0)=0");
        edge("II", "HOUR may pass 999 there: CLEAR RUN, ALIKE", setting + "clearRun()=9 sight(4)=54");
        edge("II", "HOUR may pass 999 there: LOTS", "blows(2,7,9) comes(0,0,14) lies(4,0)" + TO_999 + "lots(1,1,0)=0"
                + " lots(1,0,0)=0 15*back() back()=-3");
        edge("II", "HOUR may pass 999 there: LOTS, fog behind 10", "blows(2,7,8) comes(0,0,14)"
                + " lies(4,0)" + TO_999 + "then(9,0)=" + ALL
                + " then(10,0)=0 lots(1,1,0)=0 blows(2,7,0) lots(1,1,0)=1");
        edge("II", "HOUR may pass 999 there: WHICH FRONT", setting + "row(0) row(7) whichFront(0,0)=4");
        edge("II", "HOUR may pass 999 there: WHAT KIND", "comes(7,0,0) stands(0,9)" + TO_999 + "stands(0,9) lies(1,9)"
                + " row(9) row(9) row(1) whatKind(0,0)=128");
        edge("4", "GOAL in the next HOUR, behind 999", "comes(7,0,10) comes(5,0,0) lies(9,4)"
                + " blows(3,9,0)" + TO_999 + "owns(0,-1) person(0,7)=4 person(1,7)=4");
    }

    // ---- Promises 21 .. 23 ----

    private static void when() throws ReflectiveOperationException {
        edge("21", "-1 (either): the one", "lies(0,0) when(0,0)=-1 comes(0,0,0) when(1,0)=-1 when(-1,0)=-1"
                + " when(MIN,0)=-1 when(MAX,0)=-1 when(0,0)=-9");
        edge("21", "-1 (either): the THING", "comes(0,0,0) when(0,0)=-1 lies(0,0) when(0,1)=-1 when(0,-1)=-1"
                + " when(0,MIN)=-1 when(0,MAX)=-1 when(0,0)=-9");
        edge("21", "0: his now, though CLEAR", "comes(0,0,0) comes(0,0,0) lies(0,0) owns(0,1) when(1,0)=0"
                + " when(0,0)=-9");
        edge("21", "behind how many first", FOGGY + "comes(0,0,5) stands(0,0) lies(0,5) when(0,0)=5 stands(0,4)"
                + " when(0,0)=1");
        edge("21", "-9: another's", FOGGY + "comes(0,0,0) comes(0,0,0) lies(0,0) when(0,0)=1 when(1,0)=-9");
    }

    private static void firstAndClears() throws ReflectiveOperationException {
        edge("22", "-9: nothing, nobody, no FOG", "first()=-9 lies(0,0) first()=-9 comes(0,0,0) first()=-9"
                + " blows(2,9,0) first()=0");
        edge("22", "THING of nobody's now", FOGGY + "comes(0,0,0) lies(0,0) owns(0,0) first()=-9 lies(0,0) first()=1");
        edge("22", "of nobody's now: what is dropped is none", "blows(2,9,1) comes(0,0,0) lies(0,0) owns(0,0)"
                + " first()=-9");
        edge("22", "somebody's first", FOGGY + "comes(0,0,0) comes(0,0,23) stands(0,2) stands(1,22) lies(0,0)"
                + " lies(0,23) first()=1");
        edge("22", "of several the least", FOGGY + "comes(0,0,0) comes(0,0,23) lies(0,23) lies(0,0) first()=0");
        edge("22", "of several the least, of 8", FOGGY + "comes(5,9,0) 6*lies(0,23) 2*lies(0,0) first()=6");
        edge("23", "-1", "clears(24)=-1 clears(-1)=-1 clears(MIN)=-1 clears(MAX)=-1 clears(23)=0 clears(0)=0");
        edge("23", "0: CLEAR now", "blows(2,9,1) hours(1) clears(0)=0");
        edge("23", "1: CLEAR in the next HOUR", "blows(2,9,1) clears(0)=1");
        edge("23", "-9: never", FOGGY + "clears(0)=-9");
        edge("23", "STEAM goes, FOG of THICK less", "comes(4,0,23) stands(0,0) clears(0)=1 clears(23)=0 clears(12)=0"
                + " thick(6) clears(0)=0");
    }

    /**
     * CELL 1 and CELL 7 are CLEAR in HOUR 11 and 77 alone (HAAR 6 is 2 there where the rest of the HOUR over 6
     * is 5, BANK lacks there where its rest over 11 is 0). What the man owns there is dropped in HOUR 77;
     * in HOUR 78 the thief has it, in 79 he has the other THING.
     */
    private static String until77(int hour) {
        return "blows(3,6,0) blows(0,9,9) comes(2,0,1) comes(0,0,23) lies(9,1) lies(1,7) hours(" + hour
                + ") owns(0,1) owns(1,-1) stands(0,1) ";
    }

    private static void sixtyHoursOn() throws ReflectiveOperationException {
        edge("23", "CLEARS 60", until77(17) + "clears(1)=60 clears(7)=60");
        edge("23", "CLEARS behind 60", until77(16) + "clears(1)=-9 clears(7)=-9");
        edge("21", "WHEN 60", until77(18) + "when(0,0)=60");
        edge("21", "WHEN behind 60", until77(17) + "when(0,0)=-9");
        edge("22", "FIRST 60", until77(19) + "first()=1");
        edge("22", "FIRST behind 60", until77(18) + "first()=-9");
    }

    // ---- Promises 24 .. 27 ----

    private static void stand() throws ReflectiveOperationException {
        edge("24", "-1", "stand(0,0,0)=-1 comes(0,0,0) stand(1,0,0)=-1 stand(-1,0,0)=-1 stand(MIN,0,0)=-1"
                + " stand(MAX,0,0)=-1 stand(0,0,0)=0");
        edge("24", "-4", "comes(0,0,0) stand(0,-1,0)=-4 stand(0,MIN,0)=-4 stand(0,0,0)=0");
        edge("24", "-6 30", "comes(0,0,0) stand(0,31,0)=-6 stand(0,MAX,0)=-6 stand(0,30,0)=0");
        edge("24", "-2", "comes(0,0,0) stand(0,0,2)=-2 stand(0,0,-1)=-2 stand(0,0,MIN)=-2 stand(0,0,MAX)=-2"
                + " stand(0,0,1)=0");
        edge("24", "-1 ahead of -4, -6, -2", "stand(0,-1,0)=-1 stand(0,31,0)=-1 stand(0,0,2)=-1");
        edge("24", "-4, -6 ahead of -2", "comes(0,0,0) stand(0,-1,2)=-4 stand(0,31,2)=-6");
        edge("24", "of several the least: all alike", "comes(0,0,23) stand(0,30,0)=0 stand(0,30,1)=0");
        edge("24", "of several the least: of those one step away", FOGGY + "comes(0,0,5) lies(7,5) stand(0,1,0)=4"
                + " stand(0,1,1)=7");
        edge("24", "the last CELL", FOGGY + "comes(3,0,0) lies(7,23) stand(0,1,0)=23 stand(0,1,1)=7 stand(0,30,0)=23");
        edge("24", "n 0: WORTHS he owns now", "comes(0,0,5) lies(7,9) owns(0,0) stand(0,0,0)=0 stand(0,0,1)=7"
                + " stand(0,1,1)=0");
        edge("24", "n 29 and 30", "blows(2,9,9) comes(0,0,5) lies(7,5) stand(0,29,1)=0 stand(0,30,1)=7"
                + " stand(0,30,0)=0");
        edge("24", "most WORTHS, not most THINGS", FOGGY + "comes(3,9,0) lies(1,3) lies(1,3) lies(1,3) lies(4,8)"
                + " stand(0,3,0)=8 stand(0,3,1)=4");
    }

    private static void kettle() throws ReflectiveOperationException {
        edge("25", "-1 (either): the one", "lies(0,0) kettle(0,0,0)=-1 comes(0,0,0) kettle(1,0,0)=-1"
                + " kettle(-1,0,0)=-1 kettle(MIN,0,0)=-1 kettle(MAX,0,0)=-1 kettle(0,0,0)=-9");
        edge("25", "-1 (either): the THING", "comes(0,0,0) kettle(0,0,0)=-1 lies(0,0) kettle(0,1,0)=-1"
                + " kettle(0,-1,0)=-1 kettle(0,MIN,0)=-1 kettle(0,MAX,0)=-1 kettle(0,0,0)=-9");
        edge("25", "-4", "comes(0,0,0) lies(0,0) kettle(0,0,-1)=-4 kettle(0,0,MIN)=-4 kettle(0,0,0)=-9");
        edge("25", "-6 30", "comes(0,0,0) lies(0,0) kettle(0,0,31)=-6 kettle(0,0,MAX)=-6 kettle(0,0,30)=0");
        edge("25", "-1 ahead of -4, -6", "kettle(0,0,-1)=-1 kettle(0,0,31)=-1 comes(0,0,0) kettle(0,0,-1)=-1"
                + " kettle(0,0,31)=-1");
        edge("25", "STEAM being 9, THICK 9", "thick(9) comes(0,0,5) lies(7,5) kettle(0,0,1)=5 kettle(0,0,30)=5");
        edge("25", "n 0: none his now", "comes(0,0,5) lies(7,5) kettle(0,0,0)=-9");
        edge("25", "n 0: his now", "comes(0,0,5) lies(7,5) owns(0,0) kettle(0,0,0)=0");
        edge("25", "from now on: it keeps a THING owned", "comes(0,0,5) lies(7,9) owns(0,0) kettle(0,0,1)=9"
                + " kettle(0,0,30)=9");
        edge("25", "the last CELL", "comes(0,0,23) lies(7,23) kettle(0,0,1)=23");
        edge("25", "of several the least", FOGGY + "comes(0,0,5) lies(7,5) kettle(0,0,1)=0");
        edge("25", "-9: he comes too late", "comes(0,0,5) stands(0,3) lies(7,5) kettle(0,0,1)=-9 kettle(0,0,2)=5");
        edge("25", "besides: other STEAM and AIR stay", "thick(5) comes(3,0,5) lies(7,5) kettle(0,0,1)=0");
        edge("25", "it is no AIR", "comes(5,9,5) lies(7,5) kettle(0,0,1)=-9");
        edge("25", "the one and the THING have other numbers", "comes(0,0,0) comes(0,0,9) lies(7,9) lies(7,9)"
                + " kettle(1,0,1)=9 kettle(1,1,2)=9 kettle(0,1,9)=-9");
    }

    private static void without() throws ReflectiveOperationException {
        edge("26", "-4", "without(-1,0)=-4 without(MIN,0)=-4 without(0,0)=-9");
        edge("26", "-6 (60)", "without(61,0)=-6 without(MAX,0)=-6 without(60,0)=-9");
        edge("26", "-2", "without(0,2)=-2 without(0,-1)=-2 without(0,MIN)=-2 without(0,MAX)=-2 without(0,1)=-9");
        edge("26", "-4, -6 ahead of -2", "without(-1,2)=-4 without(61,2)=-6");
        edge("26", "-9 there is none", "without(0,0)=-9 without(0,1)=-9 comes(3,0,0) without(30,0)=-9"
                + " without(30,1)=-9");
        edge("26", "one FRONT, none in fog then", FOGGY + "without(0,0)=0 without(0,1)=0 without(60,0)=0"
                + " without(60,1)=0");
        edge("26", "one FRONT, all in fog then by STEAM", FOGGY + "comes(3,0,4) without(0,0)=0 without(0,1)=1");
        edge("26", "of several the least", "blows(1,9,0) blows(1,9,1) without(0,0)=0 without(0,1)=6");
        edge("26", "the last of 6", FOGGY + "4*blows(4,0,0) blows(2,9,0) without(0,0)=0"
                + " without(0,1)=" + 24 + " blows(0,0,0)=-6");
        edge("26", "fewest: the last of 6", "blows(1,9,0) 4*blows(4,0,0) blows(2,9,0) without(0,0)=5 without(0,1)=6");
        edge("26", "behind 59 and 60 HOURS", "blows(1,9,0) blows(2,9,9) without(59,0)=0 without(59,1)=0"
                + " without(60,0)=1 without(60,1)=6");
        edge("26", "all goes on without that FRONT: LATER too", "blows(2,9,0) blows(6,0,9) blows(1,9,0)"
                + " without(0,0)=0 without(0,1)=6");
        edge("26", "from now on: who goes by AIR goes otherwise", "blows(1,4,3) blows(1,3,2) comes(6,3,0)"
                + " stands(0,18) without(1,0)=0 without(1,1)=6");
    }

    private static void swap() throws ReflectiveOperationException {
        edge("27", "-4", "swap(-1)=-4 swap(MIN)=-4 swap(0)=-9");
        edge("27", "-6 (30)", "swap(31)=-6 swap(MAX)=-6 swap(30)=-9");
        edge("27", "-9: nobody, one", "swap(1)=-9 comes(4,0,0) swap(1)=-9");
        String brewer = FOGGY + "comes(0,0,0) comes(4,0,23) 3*lies(1,0) ";
        edge("27", "n 0: none more", brewer + "swap(0)=-9");
        edge("27", "more than as it is", brewer + "swap(1)=1 swap(2)=1 swap(3)=-9 swap(30)=-9");
        edge("27", "of several the first", brewer + "comes(5,3,23) swap(1)=1");
        edge("27", "of several with most the first", FOGGY + "comes(0,0,0) comes(4,0,23) comes(5,4,23) 4*lies(1,0)"
                + " swap(1)=2");
        edge("27", "the last two of 5", FOGGY + "3*comes(6,0,12) comes(6,0,0) comes(4,0,23) 3*lies(1,0) swap(1)=34");
        edge("27", "10 the lesser and the other", FOGGY + "comes(6,0,5) comes(4,0,23) comes(6,0,0) 3*lies(1,0)"
                + " swap(1)=12");
        edge("27", "all else stays: CELL, HOME", FOGGY + "comes(3,0,0) stands(0,1) comes(0,0,0) stands(1,2) lies(1,0)"
                + " swap(1)=1 swap(2)=-9");
        edge("27", "FIGURE changed: the lesser's", FOGGY + "comes(5,4,23) comes(0,0,0) 4*lies(1,0) swap(1)=1");
        edge("27", "FIGURE changed: the other's", FOGGY + "comes(0,0,0) comes(5,4,23) 4*lies(1,0) swap(1)=1");
    }

    // ---- Promises 28 .. 31 ----

    private static void whatKind() throws ReflectiveOperationException {
        edge("28", "-1", "whatKind(0,0)=-1 comes(0,0,0) whatKind(1,0)=-1 whatKind(-1,0)=-1 whatKind(MIN,0)=-1"
                + " whatKind(MAX,0)=-1 whatKind(0,0)=255");
        edge("28", "-2", "comes(0,0,0) whatKind(0,2)=-2 whatKind(0,-1)=-2 whatKind(0,MIN)=-2 whatKind(0,MAX)=-2"
                + " whatKind(0,1)=1023");
        edge("28", "-1 ahead of -2", "whatKind(0,2)=-1");
        edge("28", "an empty ROW leaves all KINDS, FIGURES", "comes(5,3,9) whatKind(0,0)=255 whatKind(0,1)=1023"
                + " row(24) clear() whatKind(0,0)=255 whatKind(0,1)=1023");
        edge("28", "behind 0 HOURS: where he is", "comes(0,0,9) row(9) whatKind(0,0)=255 whatKind(0,1)=1023 clear()"
                + " row(8) whatKind(0,0)=0 whatKind(0,1)=0");
        edge("28", "a ROW of 12", "comes(0,0,5) 12*row(5) whatKind(0,0)=223 whatKind(0,1)=1023 count(7)=12");
        edge("28", "the last of 12", "comes(0,0,5) 11*row(5) row(6) whatKind(0,0)=0 whatKind(0,1)=0");
        edge("28", "a number that is no CELL", "comes(0,0,5) row(5) row(24) whatKind(0,0)=0 clear() row(99)"
                + " whatKind(0,1)=0");
        edge("28", "FIGURES: bit 9", "comes(6,0,18) row(18) row(0) whatKind(0,1)=512");
        edge("28", "FIGURES: bits 0 .. 2", "comes(6,9,18) row(18) row(18) whatKind(0,1)=7");
        edge("28", "KINDS: bit 7", "comes(0,0,0) stands(0,9) row(9) row(1) whatKind(0,0)=128");
        edge("28", "it stays", "comes(0,0,9) row(9) row(9) whatKind(0,0) whatKind(0,1) count(7)=2 person(0,0)=0"
                + " person(0,1)=0");
    }

    private static void whichFront() throws ReflectiveOperationException {
        edge("29", "-1 (either): the FRONT", "whichFront(0,0)=-1 blows(0,0,0) whichFront(1,0)=-1 whichFront(-1,0)=-1"
                + " whichFront(MIN,0)=-1 whichFront(MAX,0)=-1 whichFront(0,0)=127");
        edge("29", "-1 (either): the CELL", "blows(0,0,0) whichFront(0,24)=-1 whichFront(0,-1)=-1"
                + " whichFront(0,MIN)=-1 whichFront(0,MAX)=-1 whichFront(0,23)=127");
        edge("29", "an empty ROW leaves all SORTS", "blows(1,5,2) whichFront(0,0)=127 row(99) whichFront(0,0)=0"
                + " clear() whichFront(0,0)=127");
        edge("29", "behind 0 HOURS", "blows(1,5,2) row(5) whichFront(0,5)=4 hours(1) whichFront(0,5)=0");
        edge("29", "a ROW of 12", "blows(1,5,2) 12*row(5) whichFront(0,12)=3 count(7)=12");
        edge("29", "the last of 12", "blows(1,5,2) 11*row(5) row(4) whichFront(0,12)=0");
        edge("29", "the twelfth HOUR", "blows(2,5,2) row(0) row(0) row(0) row(5) row(0) row(0) row(0) row(5) row(0)"
                + " row(0) row(0) row(5)"
                + " whichFront(0,3)=1 clear() row(0) row(0) row(0) row(5) row(0) row(0) row(0) row(5) row(0) row(0)"
                + " row(0) row(0) whichFront(0,3)=0");
        edge("29", "a number that is no AIR", "blows(1,5,0) row(10) whichFront(0,0)=0 clear() row(99)"
                + " whichFront(0,0)=0");
        edge("29", "AIR behind all FRONTS", "blows(0,5,0) blows(4,9,0) row(0) whichFront(0,0)=127 clear() row(5)"
                + " whichFront(0,0)=0");
        edge("29", "the last of 6", "blows(2,9,0) 4*blows(4,0,0) blows(5,3,0) row(6) whichFront(5,0)=16");
        edge("29", "it stays", "blows(1,5,2) row(5) whichFront(0,0) count(7)=1 front(0,0)=1");
    }

    private static void two() throws ReflectiveOperationException {
        edge("30", "-1 (one of them)", "two(0,1,1)=-1 comes(0,0,0) two(0,1,1)=-1 two(1,0,1)=-1 two(0,-1,1)=-1"
                + " two(-1,0,1)=-1"
                + " two(MIN,0,1)=-1 two(MAX,0,1)=-1 two(0,MIN,1)=-1 two(0,MAX,1)=-1");
        edge("30", "-1 (one twice, too)", "comes(0,0,0) comes(0,0,0) two(0,0,1)=-1 two(1,1,1)=-1 two(0,1,1)=0");
        edge("30", "-4 1", "comes(0,0,0) comes(0,0,0) two(0,1,0)=-4 two(0,1,-1)=-4 two(0,1,MIN)=-4 two(0,1,1)=0");
        edge("30", "-6 30", "comes(0,0,0) comes(0,0,0) two(0,1,31)=-6 two(0,1,MAX)=-6 two(0,1,30)=0");
        edge("30", "-1 ahead of -4, -6", "comes(0,0,0) two(0,0,0)=-1 two(0,0,31)=-1 two(0,1,0)=-1 two(1,0,31)=-1");
        edge("30", "the first pair: all alike", "comes(0,0,0) comes(0,0,0) stands(0,5) two(0,1,1)=0 two(1,0,30)=0");
        // Both stay: 3 and 2; else each has 3: 01 and 10 hold, and 11.
        edge("30", "the first pair: 01 ahead of 10, 11", FOGGY + "comes(3,0,1) comes(3,0,1) stands(0,0) stands(1,0)"
                + " lies(5,0) lies(4,0) lies(5,1) lies(5,1)"
                + " two(0,1,1)=1 two(1,0,1)=1");
        // Neither reaches HOME by himself; the lesser has all there: 10 holds, and 11.
        edge("30", "the first pair: 10 ahead of 11", FOGGY + "comes(0,0,0) comes(0,0,0) stands(0,3) stands(1,3)"
                + " lies(9,0) two(0,1,1)=10 two(1,0,1)=1");
        edge("30", "the first pair: 11 alone", FOGGY + "comes(0,0,0) comes(0,0,23) stands(0,3) stands(1,20) lies(9,0)"
                + " lies(9,23) two(0,1,1)=11");
        // One would be where the other is, the other would not.
        edge("30", "-9", FOGGY + "comes(3,0,1) comes(3,0,1) stands(0,0) stands(1,0) lies(5,0) lies(5,1) two(0,1,1)=-9"
                + " two(1,0,1)=-9");
        edge("30", "n 29 and 30", "thick(9) blows(2,9,9) comes(3,0,1) comes(3,0,2) stands(0,0) stands(1,0) lies(9,1)"
                + " two(0,1,29)=0 two(0,1,30)=10");
        // Here he has 0 and the other 1, at HOME he has 1 and the other 2: half of 1 not cut would send him HOME.
        edge("30", "less half (cut) of 1", FOGGY + "comes(3,0,0) comes(3,0,0) stands(0,1) lies(1,0) lies(0,1)"
                + " lies(2,0) two(0,1,1)=0 two(1,0,1)=0");
        // Here he has 2 and the other 5, at HOME he has 5 and the other 8: 0 against 1 by halves, as much by wholes.
        edge("30", "less half, not all", FOGGY + "comes(3,0,0) comes(3,0,0) stands(0,1) lies(5,0) lies(2,1) lies(8,0)"
                + " two(0,1,1)=10 two(1,0,1)=1");
        edge("30", "less half (cut), both alike then", FOGGY + "comes(3,0,0) comes(3,0,0) stands(0,1) lies(5,0)"
                + " lies(3,1) lies(8,0) two(0,1,1)=0 two(1,0,1)=0");
    }

    private static void sun() throws ReflectiveOperationException {
        String one = "comes(0,0,0) lies(0,0) ";
        edge("31", "-1 (either): the one", one + "sun(1,0,0,2,0)=L1 sun(-1,0,0,2,0)=L1 sun(MIN,0,0,2,0)=L1"
                + " sun(MAX,0,0,2,0)=L1 sun(0,0,0,2,0)=0");
        edge("31", "-1 (either): the THING", one + "sun(0,1,0,2,0)=L1 sun(0,-1,0,2,0)=L1 sun(0,MIN,0,2,0)=L1"
                + " sun(0,MAX,0,2,0)=L1");
        edge("31", "-1: nobody, nothing there", "sun(0,0,0,2,0)=L1 comes(0,0,0) sun(0,0,0,2,0)=L1");
        edge("31", "-4 (n)", one + "sun(0,0,-1,2,0)=L4 sun(0,0,MIN,2,0)=L4 sun(0,0,0,2,1)=1");
        edge("31", "-4 (t below 2)", one + "sun(0,0,0,1,0)=L4 sun(0,0,0,0,0)=L4 sun(0,0,0,-1,0)=L4"
                + " sun(0,0,0,MIN,0)=L4 sun(0,0,0,2,0)=0");
        edge("31", "-6 (7)", one + "sun(0,0,8,2,0)=L6 sun(0,0,MAX,2,0)=L6 sun(0,0,7,2,0)=0");
        edge("31", "-6 (20)", one + "sun(0,0,0,21,0)=L6 sun(0,0,0,MAX,0)=L6 sun(0,0,0,20,0)=0");
        edge("31", "-2", one + "sun(0,0,0,2,2)=L2 sun(0,0,0,2,-1)=L2 sun(0,0,0,2,MIN)=L2 sun(0,0,0,2,MAX)=L2"
                + " sun(0,0,0,2,1)=1");
        edge("31", "-1 ahead of -4, -6, -2", "sun(0,0,-1,2,0)=L1 sun(0,0,0,1,0)=L1 sun(0,0,8,2,0)=L1"
                + " sun(0,0,0,21,0)=L1 sun(0,0,0,2,2)=L1");
        edge("31", "-4 ahead of -6, -2", one + "sun(0,0,-1,21,0)=L4 sun(0,0,8,1,0)=L4 sun(0,0,-1,2,2)=L4"
                + " sun(0,0,0,1,2)=L4");
        edge("31", "-6 ahead of -2", one + "sun(0,0,8,2,2)=L6 sun(0,0,0,21,2)=L6");
        edge("31", "they are counted as -1 .. -6", "sun(0,0,0,2,0)=L1 " + one + "sun(0,0,0,2,2)=L2 sun(0,0,-1,2,0)=L4"
                + " sun(0,0,8,2,0)=L6"
                + " count(11)=1 count(12)=1 count(14)=1 count(16)=1");
        edge("31", "n 0: not his now, 0 over 1", one + "sun(0,0,0,2,0)=0 sun(0,0,0,2,1)=1 sun(0,0,0,20,1)=1");
        edge("31", "n 0: his now, 1 over 1", one + "owns(0,0) sun(0,0,0,2,0)=1 sun(0,0,0,2,1)=1 sun(0,0,0,20,1)=1");
        edge("31", "never: 0 over 1", one + "sun(0,0,7,20,0)=0 sun(0,0,7,20,1)=1");
        edge("31", "surely: 1 over 1", "comes(3,0,0) lies(0,0) sun(0,0,7,20,0)=1 sun(0,0,7,20,1)=1 sun(0,0,1,2,0)=1"
                + " sun(0,0,1,2,1)=1");
        edge("31", "odds 1 in 2", FOGGY + one + "sun(0,0,1,2,0)=1 sun(0,0,1,2,1)=2 sun(0,0,7,2,0)=1 sun(0,0,7,2,1)=2");
        edge("31", "odds 1 in 20", FOGGY + one + "sun(0,0,1,20,0)=19 sun(0,0,1,20,1)=20 sun(0,0,7,20,0)=19"
                + " sun(0,0,7,20,1)=20");
        // All 7 HOURS must be without sun: 19 to the 7th over 20 to the 7th.
        edge("31", "n 7, t 20: the greatest below the line", FOGGY + "comes(0,0,23) comes(0,0,0) lies(0,0) owns(0,0)"
                + " sun(0,0,7,20,0)=893871739"
                + " sun(0,0,7,20,1)=1280000000");
        edge("31", "n 7, t 2: the least but 0", FOGGY + "comes(0,0,23) comes(0,0,0) lies(0,0) owns(0,0)"
                + " sun(0,0,7,2,0)=1 sun(0,0,7,2,1)=128");
        edge("31", "in a sunny HOUR a LAWYER goes to CELL 0", "blows(1,9,3) comes(5,1,18) lies(5,18) sun(0,0,2,2,0)=1"
                + " sun(0,0,2,2,1)=2"
                + " sun(0,0,3,2,0)=3 sun(0,0,3,2,1)=8");
        edge("31", "LATER looks back as if there had been no sun", "blows(2,9,1) blows(6,0,1)"
                + " " + one + "sun(0,0,1,2,0)=1 sun(0,0,1,2,1)=2 sun(0,0,2,2,0)=0");
        edge("31", "STEAM stays in a sunny HOUR", "thick(5) comes(3,0,0) lies(0,0) sun(0,0,1,2,0)=1 sun(0,0,1,2,1)=1");
        edge("31", "the one and the THING have other numbers", FOGGY + "comes(0,0,23) comes(0,0,0) lies(1,0)"
                + " sun(1,0,1,2,0)=1 sun(0,0,1,2,0)=0"
                + " owns(0,0) sun(0,0,0,2,0)=1 sun(1,0,0,2,0)=0");
        edge("31", "no sunny HOUR is left behind", FOGGY + "comes(0,0,0) lies(1,0) sun(0,0,1,2,0)=1"
                + " then(0,0)=" + ALL + " way(0,1)=1 cell(0,0)=9 then(1,1)=1");
    }

    // ---- Promises 32 .. 34 ----

    private static void islands() throws ReflectiveOperationException {
        edge("32", "-1 (below -2, too)", "islands(-3)=-1 islands(MIN)=-1 islands(24)=-1 islands(MAX)=-1 islands(23)=0"
                + " islands(-1)=0 islands(-2)=0");
        edge("32", "none: 0", "islands(-1)=0 islands(-2)=0 islands(0)=0 islands(23)=0");
        edge("32", "all: one", FOGGY + "islands(-1)=1 islands(-2)=24 islands(0)=" + ALL + " islands(23)=" + ALL);
        edge("32", "0 it is CLEAR", "comes(3,0,0) islands(0)=1 islands(1)=0 islands(6)=0");
        edge("32", "one CELL, the first", "comes(3,0,0) islands(-1)=1 islands(-2)=1 islands(0)=1");
        edge("32", "one CELL, the last", "comes(3,0,23) islands(-1)=1 islands(-2)=1 islands(23)=" + (1 << 23));
        edge("32", "not by corners", "comes(3,0,0) comes(3,0,7) islands(-1)=2 islands(-2)=1 islands(0)=1"
                + " islands(7)=128");
        edge("32", "not round a row's end", "comes(3,0,5) comes(3,0,6) islands(-1)=2 islands(-2)=1 islands(5)=32"
                + " islands(6)=64");
        edge("32", "not from the last row to the first", "comes(3,0,0) comes(3,0,18) islands(-1)=2 islands(-2)=1");
        edge("32", "not from the last column to the first", "comes(3,0,6) comes(3,0,11) islands(-1)=2 islands(-2)=1");
        edge("32", "by rows", "comes(3,0,17) comes(3,0,23) islands(-1)=1 islands(-2)=2"
                + " islands(17)=" + (1 << 17 | 1 << 23));
        edge("32", "by columns", "comes(3,0,22) comes(3,0,23) islands(-1)=1 islands(-2)=2 islands(22)=" + (3 << 22));
        edge("32", "the greatest, two alike", "blows(1,9,0) blows(1,9,2) islands(-1)=2 islands(-2)=6 islands(5)=63"
                + " islands(12)=" + (63 << 12));
        edge("32", "the greatest is the last", "comes(3,0,0) blows(1,9,3) islands(-1)=2 islands(-2)=6 islands(0)=1"
                + " islands(18)=" + (63 << 18));
        edge("32", "FOG is THICK", "blows(2,3,0) islands(-1)=1 thick(4) islands(-1)=0");
    }

    private static void clearRunAndAlike() throws ReflectiveOperationException {
        edge("33", "60: all CLEAR", "clearRun()=60");
        edge("33", "0: none CLEAR", FOGGY + "clearRun()=0");
        edge("33", "one CELL IN FOG is enough", "comes(3,0,23) clearRun()=0 thick(6) clearRun()=60");
        // Fog in each 9th and 10th HOUR: 1 .. 8 and 82 .. 89 are the longest runs.
        edge("33", "the next HOURS, not this", "blows(2,9,9) blows(2,9,8) clearRun()=8 hours(1) clearRun()=7");
        edge("33", "60 of them", "blows(2,9,9) blows(2,9,8) hours(28) clearRun()=7 hours(1) clearRun()=8");
        edge("33", "a run that ends with the 60th", "blows(2,9,9) blows(2,9,8) hours(29) then(60,0)=0 then(61,0)=-6"
                + " clearRun()=8 hours(1) clearRun()=8");
        edge("36", "ALIKE: 60", "sight(4)=60 blows(2,9,0) sight(4)=60");
        edge("36", "ALIKE: 0", "blows(2,9,9) comes(4,0,1) stands(0,0) blows(6,0,9) blows(4,9,0) comes(4,0,0)"
                + " sight(4)=0");
        edge("36", "ALIKE: the next HOURS, not this", "blows(2,9,9) blows(6,0,9) sight(4)=14");
        edge("36", "ALIKE: 60 of them", "blows(2,9,9) hours(20) sight(4)=6 hours(1) sight(4)=54");
        edge("36", "ALIKE: as many, not the same", "blows(3,3,0) sight(4)=60");
    }

    private static void way() throws ReflectiveOperationException {
        edge("34", "-1 (either): the first", "way(24,0)=-1 way(-1,0)=-1 way(MIN,0)=-1 way(MAX,0)=-1 way(23,0)=-9");
        edge("34", "-1 (either): the other", "way(0,24)=-1 way(0,-1)=-1 way(0,MIN)=-1 way(0,MAX)=-1 way(0,23)=-9");
        edge("34", "0 from one IN FOG to itself", "comes(3,0,5) way(5,5)=0");
        edge("34", "-9 from a CLEAR one to itself", "comes(3,0,5) way(4,4)=-9");
        edge("34", "both, too", "comes(3,0,5) way(5,4)=-9 way(4,5)=-9");
        edge("34", "1", "comes(3,0,5) comes(3,0,11) way(5,11)=1 way(11,5)=1");
        edge("34", "the farthest of all IN FOG", FOGGY + "way(0,23)=8 way(23,0)=8 way(5,18)=8");
        edge("34", "none round a row's end", "comes(3,0,5) comes(3,0,6) way(5,6)=-9 way(6,5)=-9");
        edge("34", "none from the last row to the first", "comes(3,0,2) comes(3,0,20) way(2,20)=-9 way(20,2)=-9");
        edge("34", "the fewest steps, round a gap", "blows(1,9,0) blows(1,9,2) comes(3,0,6) way(5,17)=12 way(0,12)=2"
                + " way(11,5)=-9");
        edge("34", "the longest", "blows(1,9,0) blows(1,9,3) comes(3,0,6) comes(3,0,12) way(5,23)=13");
    }

    // ---- Promises 35 .. 40 ----

    private static void share() throws ReflectiveOperationException {
        edge("35", "-1", "share(0,0)=L1 5*comes(0,0,0) share(5,0)=L1 share(-1,0)=L1 share(MIN,0)=L1 share(MAX,0)=L1"
                + " share(4,0)=0");
        edge("35", "-2", "comes(0,0,0) share(0,2)=L2 share(0,-1)=L2 share(0,MIN)=L2 share(0,MAX)=L2 share(0,1)=1");
        edge("35", "-1 ahead of -2", "share(0,2)=L1 count(11)=1 count(12)=0");
        edge("35", "0 over 1 of none", "comes(0,0,0) share(0,0)=0 share(0,1)=1");
        edge("35", "0 over 1 of no WORTH", "comes(0,0,0) lies(0,0) owns(0,0) share(0,0)=0 share(0,1)=1");
        edge("35", "0 as 0 over 1", "comes(0,0,0) lies(6,0) share(0,0)=0 share(0,1)=1");
        edge("35", "all: 1 over 1", "comes(0,0,0) lies(6,0) lies(3,0) owns(0,0) owns(1,0) share(0,0)=1 share(0,1)=1");
        edge("35", "in lowest terms", "comes(0,0,0) lies(6,0) lies(3,0) owns(0,0) share(0,0)=2 share(0,1)=3 owns(1,0)"
                + " owns(0,-1) share(0,0)=1 share(0,1)=3");
        edge("35", "the greatest", "comes(0,0,0) 7*lies(9,0) lies(8,0) owns(7,0) share(0,0)=8 share(0,1)=71");
    }

    private static void sights() throws ReflectiveOperationException {
        edge("36", "-2", "sight(5)=-2 sight(-1)=-2 sight(MIN)=-2 sight(MAX)=-2 sight(4)=60");
        edge("36", "RICHEST: -9 nobody is there", "lies(9,0) sight(0)=-9");
        edge("36", "RICHEST: none owns one", "5*comes(0,0,0) sight(0)=0");
        edge("36", "RICHEST: of several the least", "5*comes(0,0,0) lies(5,0) lies(5,0) owns(0,4) owns(1,2)"
                + " sight(0)=2");
        edge("36", "RICHEST: by WORTHS", "5*comes(0,0,0) lies(2,0) lies(2,0) lies(5,0) owns(0,0) owns(1,0) owns(2,4)"
                + " sight(0)=4");
        edge("36", "RICHEST: WORTH 0", "comes(0,0,0) comes(0,0,0) lies(0,0) owns(0,1) sight(0)=0");
        edge("36", "DROPPED: none there, all 8, none", "sight(1)=0 8*lies(0,0) sight(1)=255 comes(0,0,0) owns(7,0)"
                + " sight(1)=127 owns(0,0) sight(1)=126");
        edge("36", "WET: none there, none, all 8", "sight(2)=0 8*lies(0,0) sight(2)=0 thick(9) blows(2,8,0)"
                + " sight(2)=0 thick(8) sight(2)=255");
        edge("36", "WET: by STEAM", "lies(0,0) lies(0,1) comes(3,0,1) sight(2)=2");
        edge("36", "CROWD: -9 nobody is there", "lies(0,0) sight(3)=-9");
        edge("36", "CROWD: of several the least", "comes(0,0,23) comes(0,0,5) sight(3)=5");
        edge("36", "CROWD: most", "comes(0,0,5) comes(0,0,23) comes(0,0,23) sight(3)=23 stands(2,0) sight(3)=0");
        edge("36", "CROWD: all 5 on the last CELL", "5*comes(0,0,23) sight(3)=23");
    }

    private static void kindsAndRow() throws ReflectiveOperationException {
        edge("37", "-2", "kinds(8)=-2 kinds(-1)=-2 kinds(MIN)=-2 kinds(MAX)=-2 kinds(7)=0 kinds(0)=0");
        edge("37", "how many: none, all 5", "5*comes(7,0,0) kinds(7)=5 kinds(0)=0 kinds(2)=0 kinds(6)=0");
        edge("38", "-4", "row(-1)=-4 row(MIN)=-4 row(0)=1");
        edge("38", "-6 (99)", "row(100)=-6 row(MAX)=-6 row(99)=1");
        edge("38", "-6 (12, too)", "11*row(0) row(0)=12 row(0)=-6 count(7)=12");
        edge("38", "-4 ahead of -6", "12*row(0) row(-1)=-4 row(100)=-6");
        edge("38", "room again behind clear(), judge()", "12*row(0) clear()=12 12*row(0) judge()=0 row(0)=1");
        edge("40", "none", "clear()=0 row(5) clear()=1 clear()=0");
        edge("40", "how many it had: 12", "12*row(5) clear()=12 count(7)=0");
        edge("38", "what is cleared is no more", "lies(0,0) row(5) clear() row(9) judge()=-9");
    }

    private static void judge() throws ReflectiveOperationException {
        edge("39", "-9: an empty ROW", "judge()=-9 lies(0,0) judge()=-9");
        edge("39", "none there, too", "row(9) judge()=0");
        edge("39", "a number behind that of the last THING is not so", "lies(0,0) row(9) row(9) judge()=1");
        edge("39", "a number behind that of the last THING, of 8", "8*lies(0,0) 9*row(9) judge()=8");
        edge("39", "12 numbers", "8*lies(0,0) 12*row(9) judge()=8 count(7)=0");
        edge("39", "8 numbers of 8", "8*lies(0,0) 5*comes(0,0,0) owns(7,4) 7*row(9) row(4) judge()=-9");
        edge("39", "the last of 8", "8*lies(0,0) 7*row(9) row(4) judge()=7");
        edge("39", "fewer than there are", "8*lies(0,0) row(9) judge()=-9");
        edge("39", "9 nobody", "lies(0,0) comes(0,0,0) row(9) judge()=-9 row(0) judge()=0 owns(0,0) row(9) judge()=0"
                + " row(0) judge()=-9");
        edge("39", "numbers that are nobody's number", "lies(0,0) row(8) judge()=0 row(10) judge()=0 row(99)"
                + " judge()=0");
        edge("39", "the first that is not so", "3*lies(0,0) row(9) row(0) row(0) judge()=1");
        edge("39", "the ROW has none then, whichever it answers", "lies(0,0) row(9) judge()=-9 count(7)=0 row(0)"
                + " judge()=0 count(7)=0");
    }

    // ---- Promises 41 .. 44 ----

    private static void lots() throws ReflectiveOperationException {
        edge("41", "-4: n (1 .. 20)", "lots(0,0,0)=-4 lots(-1,0,0)=-4 lots(MIN,0,0)=-4 lots(1,0,0)=0");
        edge("41", "-6 20", "lots(21,0,0)=-6 lots(MAX,0,0)=-6 lots(20,0,0)=0");
        edge("41", "-2", "lots(1,0,2)=-2 lots(1,0,-1)=-2 lots(1,0,MIN)=-2 lots(1,0,MAX)=-2 lots(1,0,1)=0");
        edge("41", "-4, -6 ahead of -2", "lots(0,0,2)=-4 lots(21,0,2)=-6");
        edge("41", "no THINGS", FOGGY + "comes(0,0,0) lots(20,1,0)=0 lots(20,1,1)=0");
        // A MAN at HOME has what is drawn to his CELL alone.
        String[][] drawn = {{"0", "0"}, {"1", "14"}, {"-1", "17"}, {"MAX", "17"}, {"MIN", "0"}};
        for (String[] seedAndCell : drawn) {
            edge("41", "DRAWS: an int, wrapping, without its sign's bit", FOGGY + "comes(0,0," + seedAndCell[1] + ")"
                + " lies(7,23)"
                    + " lots(1," + seedAndCell[0] + ",0)=1 lots(1," + seedAndCell[0] + ",1)=7");
            edge("41", "DRAWS: nowhere else", FOGGY + "comes(0,0,23) lies(7,23) lots(1," + seedAndCell[0] + ",0)=0");
        }
        // z 1 draws 14, 22, 9, 19, 19, 11, 18, 3, 12, 6, 13, 23, 12, 12, 17, 23, 9, 15, 9, 6.
        edge("41", "by numbers", FOGGY + "comes(0,0,22) lies(7,0) lies(5,0) lots(1,1,1)=5");
        // z 0 draws 0, 12, 4, 13, 18, 7, 13, 13.
        edge("41", "8 THINGS", FOGGY + "comes(0,0,13) 7*lies(9,0) lies(5,0) lots(1,0,0)=3 lots(1,0,1)=23");
        edge("41", "a DRAW below 24: 23", FOGGY + "comes(0,0,23) lies(7,0) lots(11,1,0)=0 lots(12,1,0)=1");
        edge("41", "20 days: the last draw", FOGGY + "comes(0,0,15) lies(7,0) lots(17,1,0)=0 lots(18,1,0)=1"
                + " lots(20,1,0)=1");
        edge("41", "20 days, together", FOGGY + "comes(0,0,6) lies(7,0) lots(19,1,0)=1 lots(20,1,0)=2 lots(20,1,1)=14");
        edge("41", "THINGS owned, WORTHS owned: all of 20 days", FOGGY + "comes(1,0,0) lies(9,0) lots(20,1,0)=20"
                + " lots(20,1,1)=180");
        edge("41", "nobody's then", FOGGY + "comes(3,0,23) lies(7,23) owns(0,0) lots(1,0,0)=0");
        edge("41", "each from now", FOGGY + "comes(1,0,0) lies(7,0) lots(20,0,0)=20 thing(0,1)=0 person(0,3)=0"
                + " count(3)=0");
        edge("41", "10 HOURS: the tenth", "blows(2,9,9) comes(0,0,14) lies(7,0) lots(1,1,0)=1 hours(1) lots(1,1,0)=0");
        edge("41", "10 HOURS: a way of 10", FOGGY + "comes(0,0,0) comes(0,0,14) stands(1,4) lies(7,0) lots(1,1,0)=1");
    }

    private static void image() throws ReflectiveOperationException {
        edge("43", "-3 there is none", "restore()=-3 thick(5) restore()=-3 count(13)=2 count(4)=5");
        edge("42", "of a new object", "image()=0 'f290;p2507;t507;k4;h07;' coast()=5 restore()=0 count(0)=0"
                + " count(1)=0 count(2)=0 count(3)=0 count(4)=3 count(9)=0");
        edge("42", "HOUR", "hours(60) image()=60 hours(1) restore()=60");
        edge("42", "HOUR 999", TO_999 + "image()=999 back() restore()=999 hours(1)=-6");
        edge("42", "of all that is full", "6*blows(2,9,0) 5*comes(5,9,5) 8*lies(9,0) thick(9) hours(3) image()=3"
                + " restore()=3"
                + " count(0)=5 count(1)=8 count(2)=6 count(4)=9 count(5)=8 blows(0,0,0)=-6 comes(0,0,0)=-6"
                + " lies(0,0)=-6");
        edge("43", "again and again", "thick(4) image() thick(5) restore() count(4)=4 thick(6) restore() count(4)=4");
        edge("43", "the image stays as it was", "image() restore() thick(9) comes(0,0,0) lies(0,0) blows(0,0,0)"
                + " restore() count(0)=0 count(1)=0 count(2)=0 count(4)=3");
        edge("42", "a new one takes the old one's place", "image() thick(5) image() thick(6) restore() count(4)=5");
        edge("42", "but letters, the ROW, REFUSALS", "feed(107) row(1) hours(0) image() feed(107) row(2) hours(0)"
                + " restore()=0 count(6)=2 count(7)=2 count(14)=2");
        edge("42", "but it: what is RESTORED is still there", "image() hours(5) restore()=0 restore()=0");
        edge("42", "what can be TAKEN BACK stays", "thick(5) image() count(8)=1 back()=0 count(4)=3 restore()"
                + " count(4)=5 back()=-3");
        edge("43", "FRONTS that differ by one number", "image() blows(1,9,0) cell(0,0)=9 restore() blows(1,2,0)"
                + " cell(0,0)=2 restore() blows(1,2,1) cell(0,0)=0"
                + " restore() blows(2,2,1) cell(0,0)=2 restore() blows(2,4,1) cell(0,0)=4 restore() cell(0,0)=0");
    }

    private static void counts() throws ReflectiveOperationException {
        edge("44", "-9 for another what", "count(10)=-9 count(17)=-9 count(-1)=-9 count(MIN)=-9 count(MAX)=-9"
                + " count(-9)=-9");
        edge("44", "it is no refusal", "count(10) count(17) count(11)=0 count(12)=0 count(13)=0 count(14)=0"
                + " count(15)=0 count(16)=0");
        edge("44", "0 .. 9 at the least", "count(0)=0 count(1)=0 count(2)=0 count(3)=0 count(4)=3 count(5)=0"
                + " count(6)=0 count(7)=0 count(8)=0 count(9)=0");
        edge("44", "0 .. 9 at the greatest", "6*blows(2,9,0) 5*comes(5,9,0) 8*lies(9,0)" + TO_999 + "thick(9)"
                + " 96*feed(107) 12*row(99)"
                + " count(0)=5 count(1)=8 count(2)=6 count(3)=999 count(4)=9 count(5)=8 count(6)=96 count(7)=12"
                + " count(8)=8 count(9)=" + ALL);
        edge("44", "REFUSALS -1 .. -6", "thing(0,0)=-1 2*kinds(8)=-2 3*back()=-3 4*thick(0)=-4 6*thick(10)=-6"
                + " count(11)=1 count(12)=2 count(13)=3 count(14)=4 count(15)=0 count(16)=6");
        edge("44", "how many THINGS are owned, in the clear too", "comes(0,0,0) lies(0,0) lies(0,0) owns(1,0)"
                + " count(5)=1 owns(0,0) count(5)=2 owns(0,-1) count(5)=1");
    }

    /** Each call by the least and greatest ints, and -1 and 1, in all ways: none throws, all answer as told. */
    private static void extremes() throws ReflectiveOperationException {
        String[] calls = {"feed 1", "person 2", "thing 2", "front 2", "cell 2", "blows 3", "comes 3", "lies 2",
            "thick 1", "owns 2", "stands 2", "carries 2", "hours 1", "fogThen 2", "then 2", "ownerThen 2",
            "personThen 3", "when 2", "clears 1", "stand 3", "kettle 3", "without 2", "swap 1", "whatKind 2",
            "whichFront 2", "two 3", "sun 5", "islands 1", "way 2", "share 2", "sight 1", "kinds 1", "row 1",
            "lots 3", "count 1"};
        String[] numbers = {"MIN", "-1", "1", "MAX"};
        String setting = "blows(2,9,1) blows(6,3,1) comes(1,5,7) comes(4,3,9) comes(7,9,20) lies(3,8) lies(9,20)"
                + " hours(1) ";
        for (String call : calls) {
            int parameters = call.charAt(call.length() - 1) - '0';
            String name = call.substring(0, call.length() - 2);
            int many = 1;
            for (int i = 0; i < parameters; i++) {
                many *= numbers.length;
            }
            StringBuilder run = new StringBuilder(setting);
            int inRun = 0;
            for (int i = 0; i < many; i++) {
                int rest = i;
                for (int k = 0; k < parameters; k++) {
                    run.append(k == 0 ? name + "(" : ",").append(numbers[rest % numbers.length]);
                    rest /= numbers.length;
                }
                run.append(") ");
                inRun++;
                if (inRun == 128 || i == many - 1) {
                    edge("REFUSALS", "the least and greatest ints of " + name, run.toString());
                    run = new StringBuilder(setting);
                    inRun = 0;
                }
            }
        }
    }
}

/** Each promise by cases reckoned by hand: ordinary ones, the edges that the document names, wrong ones. */
public final class PromisesTest {
    private static final long LONG = 4000000000000000000L;

    private static final int BANK = 0;
    private static final int RIVER = 1;
    private static final int DEW = 2;
    private static final int HAAR = 3;
    private static final int LIFT = 4;
    private static final int MIRROR = 5;
    private static final int LATER = 6;

    private static final int MAN = 0;
    private static final int CHILD = 1;
    private static final int THIEF = 2;
    private static final int WIDOW = 3;
    private static final int BREWER = 4;
    private static final int LAWYER = 5;
    private static final int JUDGE = 6;
    private static final int DUKE = 7;

    private static final int ALL_CELLS = (1 << 24) - 1;

    private static int wrong = 0;

    private static void due(int promise, String call, long got, long want) {
        if (got != want) {
            wrong++;
            System.out.println("promise " + promise + ": " + call + " answered " + got + ", due is " + want);
        }
    }

    public static void main(String[] args) {
        newObject();
        letters();
        coastFaultsOfLetters();
        coastFaultsOfStatements();
        coastsThatCome();
        coastHours();
        kindsOfPeople();
        goals();
        thingsFrontsCells();
        airOfSorts();
        airOfChangers();
        whatComes();
        whatIsChanged();
        hoursInFog();
        hoursOfGrabbing();
        hoursOfWalking();
        hoursOfSteam();
        hoursAtTheEnd();
        takenBack();
        inMind();
        whenFirstClears();
        edgeOfSixtyHours();
        standAndKettle();
        withoutAFront();
        swapped();
        whatKindByRow();
        whichFrontByRow();
        twoChoose();
        sunnyHours();
        sunnyEdges();
        islandsAndWays();
        clearRuns();
        shares();
        sights();
        kindsAndRows();
        lotsOfDays();
        images();
        airBehindImages();
        counts();
        System.out.println(wrong == 0 ? "all promises hold" : wrong + " answers are not as due");
        if (wrong != 0) {
            System.exit(1);
        }
    }

    private static int tell(OnlyInFog x, String text) {
        for (int i = 0; i < text.length(); i++) {
            x.feed(text.charAt(i));
        }
        return x.coast();
    }

    /** A coast that is always in fog everywhere: AIR 9. */
    private static OnlyInFog foggy() {
        OnlyInFog x = new OnlyInFog();
        x.blows(DEW, 9, 0);
        return x;
    }

    // ---- 1 ----

    private static void newObject() {
        OnlyInFog x = new OnlyInFog();
        int[] fresh = {0, 0, 0, 0, 3, 0, 0, 0, 0, 0, -9, 0, 0, 0, 0, 0, 0, -9};
        for (int what = 0; what < fresh.length; what++) {
            due(1, "count(" + what + ")", x.count(what), fresh[what]);
        }
        due(1, "person(0, 0)", x.person(0, 0), -1);
        due(1, "thing(0, 0)", x.thing(0, 0), -1);
        due(1, "front(0, 0)", x.front(0, 0), -1);
        due(1, "restore()", x.restore(), -3);
        due(1, "back()", x.back(), -3);
        due(1, "judge()", x.judge(), -9);
        due(1, "then(60, 0)", x.then(60, 0), 0);
    }

    // ---- 2, 3 ----

    private static void letters() {
        OnlyInFog x = new OnlyInFog();
        due(2, "feed(-1)", x.feed(-1), -4);
        due(2, "feed(256)", x.feed(256), -6);
        due(2, "feed(0)", x.feed(0), 1);
        due(2, "feed(255)", x.feed(255), 2);
        for (int n = 3; n <= 96; n++) {
            due(2, "feed(65)", x.feed(65), n);
        }
        due(2, "feed(65) of 96", x.feed(65), -6);
        due(2, "feed(-1) of 96", x.feed(-1), -4);
        due(2, "count(6)", x.count(6), 96);
        due(2, "count(14)", x.count(14), 2);
        due(2, "count(16)", x.count(16), 2);
        due(3, "coast() of others", x.coast(), -1000);
        due(3, "count(6)", x.count(6), 0);
    }

    private static void coastFaultsOfLetters() {
        String[] texts = {"", "x", ";", "f", "f0", "f09", "f091", "f091x", "f0a1;", "fx", "f091;x", "f091;;",
            "p0507", "p05x7;", "p05070;", "t50;", "t5", "k;", "k12;", "k3", "o1;", "o123;", "m1;", "m0123;",
            "h1;", "h123;", "h01;h", "k3;k", "k0;x", "F091;", "k/;", "k:;", "k3;q0;"};
        int[] places = {0, 0, 0, 1, 2, 3, 4, 4, 2, 1, 5, 5, 5, 3, 5, 3, 2, 1, 2, 2, 2, 3, 2, 4, 2, 3, 5, 4, 3, 0, 1, 1, 3};
        for (int i = 0; i < texts.length; i++) {
            OnlyInFog x = new OnlyInFog();
            due(3, "coast() of " + texts[i], tell(x, texts[i]), -1000 - places[i]);
            due(3, "count(6) behind " + texts[i], x.count(6), 0);
            due(3, "count(2) behind " + texts[i], x.count(2), 0);
            for (int what = 11; what <= 16; what++) {
                due(3, "count(" + what + ") behind a fault", x.count(what), 0);
            }
        }
        OnlyInFog full = new OnlyInFog();
        StringBuilder text = new StringBuilder();
        for (int i = 0; i < 32; i++) {
            text.append("k3;");
        }
        due(3, "coast() of 96 letters", tell(full, text.toString()), 32);
        text.setCharAt(95, '3');
        due(3, "coast() of 96 letters, the last wrong", tell(full, text.toString()), -1095);
        due(3, "coast() of 95 letters, one lacks", tell(full, text.substring(0, 95)), -1095);
    }

    private static void coastFaultsOfStatements() {
        String[] texts = {"f700;", "f900;", "p8507;", "p0524;", "t124;", "k0;", "o00;", "o09;", "t100;o00;",
            "t100;o10;", "p0000;o00;", "m000;", "p0000;m024;", "p0000;m100;", "h00;", "h61;", "h99;",
            "k3;k9;k0;k1;", "t100;p0000;o01;", "t100;p0000;o00;o09;k0;"};
        int[] places = {0, 0, 0, 0, 0, 0, 0, 0, 5, 5, 6, 0, 6, 6, 0, 0, 0, 6, 11, 19};
        for (int i = 0; i < texts.length; i++) {
            OnlyInFog x = new OnlyInFog();
            x.thick(4);
            due(3, "coast() of " + texts[i], tell(x, texts[i]), -2000 - places[i]);
            due(3, "PEOPLE behind " + texts[i], x.count(0), 0);
            due(3, "THINGS behind " + texts[i], x.count(1), 0);
            due(3, "FRONTS behind " + texts[i], x.count(2), 0);
            due(3, "HOUR behind " + texts[i], x.count(3), 0);
            due(3, "THICK behind " + texts[i], x.count(4), 4);
            due(3, "what can be TAKEN BACK behind " + texts[i], x.count(8), 1);
            due(3, "letters behind " + texts[i], x.count(6), 0);
            due(3, "REFUSALS behind " + texts[i], x.count(11) + x.count(12) + x.count(14) + x.count(16), 0);
        }
        due(3, "7 FRONTS", tell(new OnlyInFog(), "f000;f000;f000;f000;f000;f000;f000;"), -2030);
        due(3, "6 PEOPLE", tell(new OnlyInFog(), "p0000;p0000;p0000;p0000;p0000;p0000;"), -2030);
        due(3, "9 THINGS", tell(new OnlyInFog(), "t000;t000;t000;t000;t000;t000;t000;t000;t000;"), -2040);
    }

    private static void coastsThatCome() {
        OnlyInFog x = new OnlyInFog();
        x.thick(2);
        due(3, "coast()", tell(x, "f091;p2711;t523;k9;o00;m023;"), 6);
        due(3, "what can be TAKEN BACK", x.count(8), 0);
        due(3, "front(0, 0)", x.front(0, 0), 0);
        due(3, "front(0, 1)", x.front(0, 1), 9);
        due(3, "front(0, 2)", x.front(0, 2), 1);
        due(3, "person(0, 0)", x.person(0, 0), 2);
        due(3, "person(0, 1)", x.person(0, 1), 7);
        due(3, "person(0, 2)", x.person(0, 2), 11);
        due(3, "person(0, 3)", x.person(0, 3), 23);
        due(3, "thing(0, 0)", x.thing(0, 0), 5);
        due(3, "thing(0, 1)", x.thing(0, 1), 23);
        due(3, "thing(0, 2)", x.thing(0, 2), 0);
        due(3, "count(4)", x.count(4), 9);
        due(3, "coast() of nobody's", tell(x, "o09;"), 1);
        due(3, "thing(0, 2)", x.thing(0, 2), -9);
        due(3, "coast() with room left", tell(x, "f699;f000;f000;f000;f000;t000;t000;t000;t000;t000;t000;t000;"), 12);
        due(3, "count(2)", x.count(2), 6);
        due(3, "count(1)", x.count(1), 8);
        due(3, "coast() of PEOPLE", tell(x, "p7923;p0000;p0000;p0000;m423;"), 5);
        due(3, "count(0)", x.count(0), 5);
        due(3, "person(4, 3)", x.person(4, 3), 23);
        due(3, "front(1, 0)", x.front(1, 0), 6);
    }

    private static void coastHours() {
        OnlyInFog x = new OnlyInFog();
        due(3, "coast() of HOURS", tell(x, "h01;h60;"), 2);
        due(3, "count(3)", x.count(3), 61);
        due(3, "960 HOURS", tell(x, "h60;h60;h60;h60;h60;h60;h60;h60;h60;h60;h60;h60;h60;h60;h60;"), 15);
        due(3, "count(3)", x.count(3), 961);
        due(3, "beyond 999", tell(x, "h38;h01;"), -2004);
        due(3, "count(3)", x.count(3), 961);
        due(3, "to 999", tell(x, "h38;"), 1);
        due(3, "count(3)", x.count(3), 999);
        due(3, "beyond 999", tell(x, "h01;"), -2000);
        // The man goes home by two cells; fog comes with a front told between the hours.
        OnlyInFog y = new OnlyInFog();
        due(3, "coast()", tell(y, "p0002;t502;m000;h01;f290;h01;"), 6);
        due(3, "person(0, 3)", y.person(0, 3), 2);
        due(3, "thing(0, 2)", y.thing(0, 2), 0);
        due(3, "count(3)", y.count(3), 2);
        due(3, "what can be TAKEN BACK", y.count(8), 0);
    }

    // ---- 4 ----

    private static void kindsOfPeople() {
        int[][] sevens = {{1, 1, 0}, {2, 4, 0}, {2, 5, 0}, {0, 1, 5}, {2, 3, 8}, {3, 7, 0}, {2, 0, 3}, {3, 5, 0}};
        int[][] noughts = {{1, 1, 0}, {2, 1, 0}, {2, 2, 0}, {0, 1, 5}, {2, 3, 5}, {1, 0, 0}, {0, 0, 3}, {3, 2, 0}};
        int[][] nines = {{1, 1, 0}, {2, 5, 0}, {2, 6, 0}, {0, 1, 5}, {2, 3, 9}, {4, 9, 0}, {3, 0, 3}, {3, 6, 0}};
        int[] figures = {7, 0, 9};
        int[][][] dues = {sevens, noughts, nines};
        for (int i = 0; i < figures.length; i++) {
            for (int kind = 0; kind < 8; kind++) {
                OnlyInFog x = new OnlyInFog();
                due(9, "comes", x.comes(kind, figures[i], 23), 0);
                due(4, "person(0, 0)", x.person(0, 0), kind);
                due(4, "person(0, 1)", x.person(0, 1), figures[i]);
                due(4, "person(0, 2)", x.person(0, 2), 23);
                due(4, "person(0, 3)", x.person(0, 3), 23);
                for (int k = 0; k < 3; k++) {
                    String call = "KIND " + kind + " FIGURE " + figures[i] + " person(0, " + (4 + k) + ")";
                    due(4, call, x.person(0, 4 + k), dues[i][kind][k]);
                }
            }
        }
        OnlyInFog x = new OnlyInFog();
        x.comes(MAN, 0, 5);
        x.stands(0, 7);
        due(4, "person(0, 2)", x.person(0, 2), 5);
        due(4, "person(0, 3)", x.person(0, 3), 7);
        due(4, "person(0, 9)", x.person(0, 9), -2);
        due(4, "person(0, -1)", x.person(0, -1), -2);
        due(4, "person(1, 9)", x.person(1, 9), -1);
        due(4, "person(-1, 0)", x.person(-1, 0), -1);
        x.lies(9, 0);
        x.lies(4, 1);
        x.lies(7, 1);
        x.owns(0, 0);
        x.owns(1, 0);
        due(4, "person(0, 8)", x.person(0, 8), 13);
    }

    private static void goals() {
        OnlyInFog x = new OnlyInFog();
        for (int kind : new int[] {MAN, CHILD, THIEF, WIDOW, BREWER}) {
            x.comes(kind, 0, 10);
            x.stands(kind, 0);
        }
        for (int person = 0; person < 5; person++) {
            due(4, "GOAL without THINGS", x.person(person, 7), 10);
        }
        // From cell 0 they are 3, 2 and 2 steps away.
        x.lies(5, 13);
        x.lies(5, 2);
        x.lies(9, 12);
        int[] goals = {10, 2, 12, 10, 10};
        for (int person = 0; person < 5; person++) {
            due(4, "GOAL of " + person, x.person(person, 7), goals[person]);
        }
        x.owns(1, 0);
        due(4, "GOAL of a CHILD, the nearest owned", x.person(1, 7), 12);
        x.owns(2, 0);
        due(4, "GOAL of a CHILD, but one owned", x.person(1, 7), 13);
        due(4, "GOAL of a THIEF, another's", x.person(2, 7), 12);
        x.owns(2, 2);
        due(4, "GOAL of a THIEF, the greatest his", x.person(2, 7), 13);
        x.owns(0, 2);
        due(4, "GOAL of a CHILD, all owned", x.person(1, 7), 10);
        x.owns(1, 2);
        due(4, "GOAL of a THIEF, all his", x.person(2, 7), 10);

        OnlyInFog y = new OnlyInFog();
        y.comes(LAWYER, 3, 20);
        y.comes(JUDGE, 3, 21);
        y.comes(DUKE, 3, 22);
        y.lies(1, 17);
        due(4, "GOAL of a LAWYER, AIR 0", y.person(0, 7), 0);
        y.blows(HAAR, 4, 0);
        due(4, "GOAL of a LAWYER", y.person(0, 7), 1);
        due(4, "GOAL of a JUDGE", y.person(1, 7), 1);
        due(4, "GOAL of a DUKE, odd", y.person(2, 7), 22);
        y.hours(1);
        due(4, "GOAL of a LAWYER", y.person(0, 7), 2);
        due(4, "GOAL of a DUKE, even", y.person(2, 7), 17);
        due(4, "HOUR stays", y.count(3), 1);
        y.blows(RIVER, 9, 3);
        due(4, "GOAL of a LAWYER by a RIVER", y.person(0, 7), 18);
    }

    // ---- 5, 6, 7 ----

    private static void thingsFrontsCells() {
        OnlyInFog x = new OnlyInFog();
        due(8, "blows(3, 4, 5)", x.blows(3, 4, 5), 0);
        x.lies(6, 7);
        x.comes(BREWER, 4, 7);
        x.comes(WIDOW, 0, 8);
        x.comes(MAN, 0, 7);
        x.lies(0, 7);
        due(5, "thing(0, 0)", x.thing(0, 0), 6);
        due(5, "thing(0, 1)", x.thing(0, 1), 7);
        due(5, "thing(0, 2)", x.thing(0, 2), -9);
        x.owns(0, 0);
        due(5, "thing(0, 2)", x.thing(0, 2), 0);
        due(5, "thing(0, 3)", x.thing(0, 3), -2);
        due(5, "thing(0, -1)", x.thing(0, -1), -2);
        due(5, "thing(2, 3)", x.thing(2, 3), -1);
        due(5, "thing(-1, 0)", x.thing(-1, 0), -1);
        due(6, "front(0, 0)", x.front(0, 0), 3);
        due(6, "front(0, 1)", x.front(0, 1), 4);
        due(6, "front(0, 2)", x.front(0, 2), 5);
        due(6, "front(0, 3)", x.front(0, 3), -2);
        due(6, "front(0, -1)", x.front(0, -1), -2);
        due(6, "front(1, 3)", x.front(1, 3), -1);
        due(6, "front(-1, 0)", x.front(-1, 0), -1);
        // HAAR 4 in hour 0: 4 3 2 1 0 0; the brewer's steam is 7, the widow's 5.
        int[] air = {4, 3, 2, 1, 0, 0};
        int[] fog = {4, 7, 5, 1, 0, 0};
        for (int column = 0; column < 6; column++) {
            due(7, "cell(.., 0)", x.cell(6 + column, 0), air[column]);
            due(7, "cell(.., 1)", x.cell(6 + column, 1), fog[column]);
            due(7, "cell(.., 2)", x.cell(6 + column, 2), fog[column] >= 3 ? 1 : 0);
        }
        due(7, "cell(7, 3)", x.cell(7, 3), 5);
        due(7, "cell(8, 3)", x.cell(8, 3), 2);
        due(7, "cell(7, 4)", x.cell(7, 4), 3);
        due(7, "cell(8, 4)", x.cell(8, 4), 0);
        x.thick(7);
        due(7, "cell(7, 2) just thick", x.cell(7, 2), 1);
        x.thick(8);
        due(7, "cell(7, 2) not thick", x.cell(7, 2), 0);
        due(7, "cell(0, 5)", x.cell(0, 5), -2);
        due(7, "cell(0, -1)", x.cell(0, -1), -2);
        due(7, "cell(24, 5)", x.cell(24, 5), -1);
        due(7, "cell(-1, 0)", x.cell(-1, 0), -1);
        due(7, "cell(23, 0)", x.cell(23, 0), 0);
    }

    private static void air(int promise, String told, OnlyInFog x, int cell, int hour, int want) {
        due(promise, told + " fogThen(" + cell + ", " + hour + ")", x.fogThen(cell, hour), want);
    }

    private static void airOfSorts() {
        OnlyInFog bank = new OnlyInFog();
        bank.blows(BANK, 7, 1);
        int[][] reach = {{0, 0}, {1, 1}, {2, 2}, {3, 0}, {4, 1}, {59, 2}};
        for (int[] r : reach) {
            for (int column = 0; column < 6; column++) {
                air(17, "BANK", bank, 12 + column, r[0], column <= r[1] ? 7 : 0);
            }
        }
        OnlyInFog wide = new OnlyInFog();
        wide.blows(BANK, 7, 9);
        air(17, "BANK b 9", wide, 5, 5, 7);
        air(17, "BANK b 9", wide, 5, 4, 0);
        air(17, "BANK b 9", wide, 5, 10, 7);
        air(17, "BANK b 9", wide, 1, 11, 0);
        OnlyInFog river = new OnlyInFog();
        river.blows(RIVER, 6, 6);
        air(17, "RIVER", river, 11, 3, 0);
        air(17, "RIVER", river, 12, 3, 6);
        air(17, "RIVER", river, 17, 0, 6);
        air(17, "RIVER", river, 18, 0, 0);
        OnlyInFog dew = new OnlyInFog();
        dew.blows(DEW, 5, 2);
        for (int hour = 0; hour <= 12; hour++) {
            air(17, "DEW", dew, 9, hour, hour % 3 == 0 ? 5 : 0);
        }
        OnlyInFog haar = new OnlyInFog();
        haar.blows(HAAR, 4, 9);
        int[] atTwo = {2, 3, 4, 3, 2, 1};
        for (int column = 0; column < 6; column++) {
            air(17, "HAAR", haar, 18 + column, 8, atTwo[column]);
        }
        air(17, "HAAR", haar, 5, 6, 0);
        // The greater of what is ahead and one's own, both ways round.
        OnlyInFog both = new OnlyInFog();
        both.blows(RIVER, 6, 0);
        both.blows(DEW, 4, 1);
        both.blows(BANK, 5, 0);
        both.blows(HAAR, 5, 0);
        both.blows(RIVER, 2, 0);
        air(17, "greater ahead", both, 5, 2, 6);
        air(17, "greater behind", both, 11, 2, 4);
        air(17, "greater behind", both, 6, 2, 5);
        air(17, "none", both, 11, 5, 5);
        air(17, "none", both, 11, 1, 1);
    }

    private static void airOfChangers() {
        OnlyInFog lift = new OnlyInFog();
        lift.blows(LIFT, 2, 0);
        lift.blows(RIVER, 7, 0);
        lift.blows(LIFT, 3, 9);
        air(17, "LIFT", lift, 0, 0, 4);
        air(17, "LIFT, 0 at least", lift, 6, 0, 0);
        OnlyInFog mirror = new OnlyInFog();
        mirror.blows(BANK, 7, 1);
        mirror.blows(MIRROR, 0, 0);
        air(17, "MIRROR", mirror, 5, 0, 7);
        air(17, "MIRROR", mirror, 0, 0, 0);
        air(17, "MIRROR", mirror, 22, 1, 7);
        air(17, "MIRROR", mirror, 21, 1, 0);
        mirror.blows(BANK, 3, 1);
        air(17, "BANK behind a MIRROR", mirror, 0, 0, 3);
        air(17, "BANK behind a MIRROR", mirror, 5, 0, 7);
        mirror.blows(MIRROR, 0, 0);
        air(17, "MIRROR twice", mirror, 0, 0, 7);
        air(17, "MIRROR twice", mirror, 5, 0, 3);
        OnlyInFog later = new OnlyInFog();
        later.blows(DEW, 5, 2);
        later.blows(LATER, 0, 1);
        int[] dews = {5, 5, 0, 0, 5, 0, 0, 5};
        for (int hour = 0; hour < dews.length; hour++) {
            air(17, "LATER", later, 3, hour, dews[hour]);
        }
        // Looks back by nine, then by one more; the dew behind it is of the hour itself.
        later.blows(LATER, 0, 9);
        later.blows(DEW, 4, 4);
        air(17, "LATER twice", later, 3, 13, 5);
        air(17, "LATER twice", later, 3, 12, 0);
        air(17, "LATER twice", later, 3, 9, 5);
        air(17, "LATER twice", later, 3, 15, 4);
        later.hours(13);
        due(7, "cell(3, 0)", later.cell(3, 0), 5);
    }

    // ---- 8 .. 14 ----

    private static void whatComes() {
        OnlyInFog x = new OnlyInFog();
        due(8, "blows(7, -1, 10)", x.blows(7, -1, 10), -2);
        due(8, "blows(-1, 0, 0)", x.blows(-1, 0, 0), -2);
        due(8, "blows(0, -1, 10)", x.blows(0, -1, 10), -4);
        due(8, "blows(0, 10, -1)", x.blows(0, 10, -1), -4);
        due(8, "blows(0, 10, 0)", x.blows(0, 10, 0), -6);
        due(8, "blows(0, 0, 10)", x.blows(0, 0, 10), -6);
        for (int i = 0; i < 6; i++) {
            due(8, "blows(6, 9, 9)", x.blows(6, 9, 9), i);
        }
        due(8, "blows(0, 0, 0) of 6", x.blows(0, 0, 0), -6);
        due(8, "blows(0, -1, 0) of 6", x.blows(0, -1, 0), -4);
        due(8, "count(2)", x.count(2), 6);
        due(9, "comes(8, -1, 24)", x.comes(8, -1, 24), -2);
        due(9, "comes(-1, 0, 0)", x.comes(-1, 0, 0), -2);
        due(9, "comes(0, -1, 24)", x.comes(0, -1, 24), -4);
        due(9, "comes(0, 10, 24)", x.comes(0, 10, 24), -6);
        due(9, "comes(0, 0, 24)", x.comes(0, 0, 24), -1);
        due(9, "comes(0, 0, -1)", x.comes(0, 0, -1), -1);
        for (int i = 0; i < 5; i++) {
            due(9, "comes(7, 9, 23)", x.comes(7, 9, 23), i);
        }
        due(9, "comes(0, 0, 24) of 5", x.comes(0, 0, 24), -6);
        due(9, "comes(0, -1, 0) of 5", x.comes(0, -1, 0), -4);
        due(9, "count(0)", x.count(0), 5);
        due(10, "lies(-1, 24)", x.lies(-1, 24), -4);
        due(10, "lies(10, 24)", x.lies(10, 24), -6);
        due(10, "lies(0, 24)", x.lies(0, 24), -1);
        due(10, "lies(0, -1)", x.lies(0, -1), -1);
        for (int i = 0; i < 8; i++) {
            due(10, "lies(9, 23)", x.lies(9, 23), i);
        }
        due(10, "lies(0, 24) of 8", x.lies(0, 24), -6);
        due(10, "lies(-1, 0) of 8", x.lies(-1, 0), -4);
        due(10, "count(1)", x.count(1), 8);
        due(10, "thing(7, 2)", x.thing(7, 2), -9);
    }

    private static void whatIsChanged() {
        OnlyInFog x = new OnlyInFog();
        due(11, "thick(0)", x.thick(0), -4);
        due(11, "thick(10)", x.thick(10), -6);
        due(11, "thick(1)", x.thick(1), 3);
        due(11, "thick(9)", x.thick(9), 1);
        due(11, "thick(9)", x.thick(9), 9);
        due(11, "count(4)", x.count(4), 9);
        due(12, "owns(0, -1) of nothing", x.owns(0, -1), -1);
        x.lies(5, 2);
        due(12, "owns(0, 0) of nobody", x.owns(0, 0), -1);
        x.comes(MAN, 0, 4);
        x.comes(MAN, 0, 5);
        due(12, "owns(0, 1) in the clear", x.owns(0, 1), -9);
        due(12, "owns(0, 0)", x.owns(0, 0), 1);
        due(12, "owns(0, -1)", x.owns(0, -1), 0);
        due(12, "owns(0, -1)", x.owns(0, -1), -9);
        due(12, "owns(0, -2)", x.owns(0, -2), -1);
        due(12, "owns(0, 2)", x.owns(0, 2), -1);
        due(12, "owns(1, 0)", x.owns(1, 0), -1);
        due(12, "owns(-1, 0)", x.owns(-1, 0), -1);
        due(13, "stands(0, 23)", x.stands(0, 23), 4);
        due(13, "stands(0, 0)", x.stands(0, 0), 23);
        due(13, "person(0, 3)", x.person(0, 3), 0);
        due(13, "person(0, 2)", x.person(0, 2), 4);
        due(13, "stands(0, 24)", x.stands(0, 24), -1);
        due(13, "stands(0, -1)", x.stands(0, -1), -1);
        due(13, "stands(2, 0)", x.stands(2, 0), -1);
        due(13, "stands(-1, 0)", x.stands(-1, 0), -1);
        due(14, "carries(0, 23)", x.carries(0, 23), 2);
        due(14, "carries(0, 0)", x.carries(0, 0), 23);
        due(14, "thing(0, 1)", x.thing(0, 1), 0);
        due(14, "carries(0, 24)", x.carries(0, 24), -1);
        due(14, "carries(0, -1)", x.carries(0, -1), -1);
        due(14, "carries(1, 0)", x.carries(1, 0), -1);
        due(14, "carries(-1, 0)", x.carries(-1, 0), -1);
        due(14, "owner stays", x.owns(0, 1) + x.carries(0, 9) + x.thing(0, 2), -9 + 0 + 1);
    }

    // ---- 15 ----

    private static void hoursInFog() {
        OnlyInFog x = new OnlyInFog();
        x.comes(MAN, 0, 0);
        x.lies(5, 0);
        due(15, "hours(0)", x.hours(0), -4);
        due(15, "hours(61)", x.hours(61), -6);
        due(15, "hours(1) in the clear", x.hours(1), 0);
        due(15, "count(3)", x.count(3), 1);
        // Fog in even hours alone: what he has he loses in the odd ones.
        x.blows(DEW, 9, 1);
        due(15, "hours(1) in fog", x.hours(1), 1);
        due(15, "thing(0, 2)", x.thing(0, 2), 0);
        due(15, "hours(1) in the clear", x.hours(1), 0);
        due(15, "thing(0, 2)", x.thing(0, 2), -9);
        due(15, "hours(60)", x.hours(60), 0);
        due(15, "hours(59)", x.hours(59), 1);
        due(15, "count(3)", x.count(3), 122);
        // Owned in the clear, a thing stays owned where fog has come.
        OnlyInFog y = new OnlyInFog();
        y.comes(MAN, 0, 0);
        y.comes(MAN, 0, 23);
        y.lies(5, 0);
        y.blows(DEW, 3, 1);
        y.hours(1);
        y.owns(0, 1);
        due(15, "hours(1), another's", y.hours(1), 1);
        due(15, "thing(0, 2)", y.thing(0, 2), 1);
    }

    private static void hoursOfGrabbing() {
        OnlyInFog x = foggy();
        x.comes(MAN, 0, 4);
        x.lies(1, 5);
        x.lies(2, 4);
        x.lies(3, 4);
        due(15, "a MAN grabs one", x.hours(1), 1);
        due(15, "the first", x.thing(1, 2), 0);
        due(15, "then the next", x.hours(1), 2);
        due(15, "then no more", x.hours(1), 2);
        int[] kinds = {MAN, CHILD, THIEF, WIDOW, BREWER, LAWYER, JUDGE, DUKE};
        int[] grabs = {1, 3, 4, 1, 3, 4, 0, 4};
        for (int kind : kinds) {
            OnlyInFog y = foggy();
            y.comes(kind, 4, 0);
            for (int i = 0; i < 8; i++) {
                y.lies(1, 0);
            }
            due(15, "KIND " + kind + " grabs", y.hours(1), grabs[kind]);
        }
        // What is another's: a thief below his figure, a duke at most, others not.
        for (int kind : kinds) {
            for (int worth = 4; worth <= 6; worth++) {
                OnlyInFog y = foggy();
                y.comes(MAN, 9, 0);
                y.comes(kind, 5, 0);
                y.lies(worth, 0);
                y.owns(0, 0);
                y.hours(2);
                boolean takes = kind == THIEF && worth < 5 || kind == DUKE && worth <= 5;
                due(15, "KIND " + kind + " takes WORTH " + worth, y.thing(0, 2), takes ? 1 : 0);
            }
        }
        // The people by numbers: the first takes it, the thief behind him takes it from him.
        OnlyInFog z = foggy();
        z.comes(MAN, 0, 0);
        z.comes(THIEF, 5, 0);
        z.lies(4, 0);
        z.lies(6, 0);
        due(15, "hours(1)", z.hours(1), 2);
        due(15, "thing(0, 2)", z.thing(0, 2), 1);
        due(15, "thing(1, 2)", z.thing(1, 2), 1);
    }

    private static void hoursOfWalking() {
        OnlyInFog x = new OnlyInFog();
        x.comes(MAN, 0, 7);
        x.stands(0, 0);
        x.comes(MAN, 0, 16);
        x.stands(1, 23);
        x.comes(BREWER, 0, 20);
        x.stands(2, 3);
        x.comes(WIDOW, 0, 0);
        x.stands(3, 9);
        x.comes(LAWYER, 9, 23);
        int[][] places = {{6, 17, 15, 9, 4}, {7, 16, 20, 9, 0}, {7, 16, 20, 9, 0}};
        for (int[] at : places) {
            x.hours(1);
            for (int person = 0; person < 5; person++) {
                due(15, "where " + person + " is", x.person(person, 3), at[person]);
            }
        }
        // A child goes all steps for one thing, though another takes it on the way.
        OnlyInFog y = foggy();
        y.comes(MAN, 0, 2);
        y.comes(CHILD, 0, 0);
        y.lies(5, 2);
        y.hours(1);
        due(15, "thing(0, 2)", y.thing(0, 2), 0);
        due(15, "the CHILD stays at HOME", y.person(1, 3), 0);
        y.owns(0, -1);
        y.stands(0, 23);
        y.hours(1);
        due(15, "the CHILD has gone by 2", y.person(1, 3), 2);
        due(15, "thing(0, 2)", y.thing(0, 2), 1);
        // A duke goes for things in even hours, home in odd ones.
        OnlyInFog z = new OnlyInFog();
        z.comes(DUKE, 9, 0);
        z.lies(9, 20);
        z.hours(1);
        due(15, "a DUKE in hour 1", z.person(0, 3), 0);
        z.hours(1);
        due(15, "a DUKE in hour 2", z.person(0, 3), 18);
        z.hours(1);
        due(15, "a DUKE in hour 3", z.person(0, 3), 0);
    }

    private static void hoursOfSteam() {
        OnlyInFog x = new OnlyInFog();
        x.comes(WIDOW, 0, 3);
        x.lies(5, 3);
        x.thick(6);
        due(15, "a WIDOW's steam is 5", x.hours(1), 0);
        x.thick(5);
        due(15, "a WIDOW's steam is 5", x.hours(1), 1);
        // A brewer goes away from cell 0; whoever acts behind him stands in the clear there.
        OnlyInFog y = new OnlyInFog();
        y.comes(BREWER, 0, 23);
        y.comes(MAN, 0, 0);
        y.stands(0, 0);
        y.lies(5, 0);
        due(15, "the steam is gone", y.hours(1), 0);
        OnlyInFog z = new OnlyInFog();
        z.comes(MAN, 0, 0);
        z.comes(BREWER, 0, 23);
        z.stands(1, 0);
        z.lies(5, 0);
        due(15, "the steam is still there", z.hours(1), 1);
        due(15, "gone by the next hour", z.hours(1), 0);
        // A brewer comes to where a man is, who acts behind him.
        OnlyInFog w = new OnlyInFog();
        w.comes(BREWER, 0, 0);
        w.comes(MAN, 0, 6);
        w.stands(0, 7);
        w.lies(5, 6);
        w.stands(0, 13);
        due(15, "steam passes by", w.hours(1), 0);
        OnlyInFog v = new OnlyInFog();
        v.comes(JUDGE, 3, 0);
        v.comes(MAN, 0, 0);
        v.lies(5, 0);
        v.stands(0, 6);
        due(15, "a JUDGE's steam is 3", v.hours(1), 1);
        due(15, "the MAN has it", v.thing(0, 2), 1);
    }

    private static void hoursAtTheEnd() {
        OnlyInFog x = new OnlyInFog();
        for (int i = 0; i < 16; i++) {
            due(15, "hours(60)", x.hours(60), 0);
        }
        due(15, "hours(40) of 960", x.hours(40), -6);
        due(15, "hours(39) of 960", x.hours(39), 0);
        due(15, "hours(1) of 999", x.hours(1), -6);
        due(15, "count(3)", x.count(3), 999);
        x.blows(DEW, 7, 9);
        due(17, "fogThen(0, 1) behind 999", x.fogThen(0, 1), 7);
        due(17, "fogThen(0, 51) behind 999", x.fogThen(0, 51), 7);
        due(17, "fogThen(0, 60) behind 999", x.fogThen(0, 60), 0);
    }

    // ---- 16 ----

    private static void takenBack() {
        OnlyInFog x = foggy();
        x.comes(MAN, 0, 0);
        x.lies(5, 0);
        x.thick(4);
        x.owns(0, 0);
        x.stands(0, 9);
        x.carries(0, 8);
        x.hours(5);
        x.thick(4);
        due(16, "count(8)", x.count(8), 6);
        x.thick(0);
        x.owns(5, 5);
        x.stands(5, 5);
        x.carries(5, 5);
        x.hours(0);
        due(16, "refused ones leave none", x.count(8), 6);
        due(16, "back()", x.back(), 5);
        due(16, "HOUR", x.count(3), 5);
        due(16, "back()", x.back(), 4);
        due(16, "HOUR", x.count(3), 0);
        due(16, "person(0, 3)", x.person(0, 3), 9);
        due(16, "thing(0, 1)", x.thing(0, 1), 8);
        due(16, "back()", x.back(), 3);
        due(16, "thing(0, 1)", x.thing(0, 1), 0);
        due(16, "back()", x.back(), 2);
        due(16, "person(0, 3)", x.person(0, 3), 0);
        due(16, "thing(0, 2)", x.thing(0, 2), 0);
        due(16, "back()", x.back(), 1);
        due(16, "thing(0, 2)", x.thing(0, 2), -9);
        due(16, "THICK", x.count(4), 4);
        due(16, "back()", x.back(), 0);
        due(16, "THICK", x.count(4), 3);
        due(16, "back()", x.back(), -3);
        for (int v = 1; v <= 9; v++) {
            x.thick(v);
        }
        due(16, "8 at most", x.count(8), 8);
        for (int left = 7; left >= 0; left--) {
            due(16, "back()", x.back(), left);
            due(16, "THICK", x.count(4), left + 1);
        }
        due(16, "back()", x.back(), -3);
        due(16, "count(13)", x.count(13), 2);
        noneLeftBehind(x);
    }

    private static void noneLeftBehind(OnlyInFog x) {
        x.thick(5);
        x.blows(9, 0, 0);
        x.comes(9, 0, 0);
        x.lies(0, 99);
        x.restore();
        tell(x, "k0;");
        x.feed('k');
        x.row(3);
        x.image();
        due(16, "refused, they leave all", x.count(8), 1);
        x.blows(0, 0, 0);
        due(16, "blows() leaves none", x.count(8), 0);
        x.thick(5);
        x.comes(0, 0, 0);
        due(16, "comes() leaves none", x.count(8), 0);
        x.thick(5);
        x.lies(0, 0);
        due(16, "lies() leaves none", x.count(8), 0);
        x.thick(5);
        tell(x, "3;");
        due(16, "a COAST leaves none", x.count(8), 0);
        x.thick(5);
        x.restore();
        due(16, "restore() leaves none", x.count(8), 0);
        due(16, "back()", x.back(), -3);
        due(16, "the ROW stays", x.count(7), 1);
    }

    // ---- 17 .. 20 ----

    private static void inMind() {
        // Fog by a bank: column c in the hours whose rest over 3 is c or more.
        OnlyInFog x = new OnlyInFog();
        x.blows(BANK, 9, 1);
        x.comes(MAN, 0, 2);
        x.comes(WIDOW, 0, 23);
        x.stands(0, 0);
        x.lies(4, 2);
        x.lies(6, 23);
        due(17, "fogThen(23, 9)", x.fogThen(23, 9), 5);
        due(17, "fogThen(24, -1)", x.fogThen(24, -1), -1);
        due(17, "fogThen(-1, 0)", x.fogThen(-1, 0), -1);
        due(17, "fogThen(0, -1)", x.fogThen(0, -1), -4);
        due(17, "fogThen(0, 61)", x.fogThen(0, 61), -6);
        due(17, "fogThen(0, 60)", x.fogThen(0, 60), 9);
        int column = 1 | 1 << 6 | 1 << 12 | 1 << 18;
        int widow = 1 << 23;
        int[] foggy = {column, column * 3, column * 7, column};
        int[] owned = {0, 1, 2, 1};
        int[] nobodys = {3, 1, 0, 1};
        for (int n = 0; n < 4; n++) {
            due(18, "then(" + n + ", 0)", x.then(n, 0), foggy[n] | widow);
            due(18, "then(" + n + ", 1)", x.then(n, 1), owned[n]);
            due(18, "then(" + n + ", 2)", x.then(n, 2), nobodys[n]);
        }
        due(18, "then(-1, 9)", x.then(-1, 9), -4);
        due(18, "then(61, 9)", x.then(61, 9), -6);
        due(18, "then(60, 3)", x.then(60, 3), -2);
        due(18, "then(60, -1)", x.then(60, -1), -2);
        due(18, "then(60, 2)", x.then(60, 2), 1);
        int[] owners = {-9, -9, 0, -9, -9, 0};
        int[] places = {0, 1, 2, 2, 2, 2};
        for (int n = 0; n < owners.length; n++) {
            due(19, "ownerThen(0, " + n + ")", x.ownerThen(0, n), owners[n]);
            due(19, "ownerThen(1, " + n + ")", x.ownerThen(1, n), n == 0 ? -9 : 1);
            due(20, "personThen(0, " + n + ", 0)", x.personThen(0, n, 0), places[n]);
            due(20, "personThen(0, " + n + ", 1)", x.personThen(0, n, 1), owners[n] == 0 ? 4 : 0);
        }
        due(19, "ownerThen(2, -1)", x.ownerThen(2, -1), -1);
        due(19, "ownerThen(-1, 0)", x.ownerThen(-1, 0), -1);
        due(19, "ownerThen(0, -1)", x.ownerThen(0, -1), -4);
        due(19, "ownerThen(0, 61)", x.ownerThen(0, 61), -6);
        due(19, "ownerThen(1, 60)", x.ownerThen(1, 60), 1);
        due(20, "personThen(2, -1, 9)", x.personThen(2, -1, 9), -1);
        due(20, "personThen(-1, 0, 0)", x.personThen(-1, 0, 0), -1);
        due(20, "personThen(0, -1, 9)", x.personThen(0, -1, 9), -4);
        due(20, "personThen(0, 61, 9)", x.personThen(0, 61, 9), -6);
        due(20, "personThen(0, 60, 2)", x.personThen(0, 60, 2), -2);
        due(20, "personThen(0, 60, -1)", x.personThen(0, 60, -1), -2);
        due(20, "personThen(1, 60, 1)", x.personThen(1, 60, 1), 6);
        due(18, "in mind alone: HOUR", x.count(3), 0);
        due(18, "in mind alone: owned", x.count(5), 0);
        due(18, "in mind alone: TAKEN BACK", x.back(), -3);
    }

    // ---- 21, 22, 23 ----

    private static void whenFirstClears() {
        OnlyInFog x = foggy();
        due(22, "first() of nothing", x.first(), -9);
        x.comes(MAN, 0, 3);
        x.comes(MAN, 0, 23);
        x.stands(0, 0);
        x.lies(1, 3);
        x.lies(1, 9);
        x.lies(1, 21);
        x.stands(1, 21);
        x.comes(MAN, 0, 22);
        x.stands(2, 4);
        x.stands(1, 20);
        due(21, "when(0, 0)", x.when(0, 0), 3);
        due(21, "when(0, 1)", x.when(0, 1), -9);
        due(21, "when(1, 2)", x.when(1, 2), 1);
        due(21, "when(2, 2)", x.when(2, 2), -9);
        due(22, "first()", x.first(), 2);
        x.owns(2, 0);
        due(21, "when(0, 2) his now", x.when(0, 2), 0);
        due(22, "first(), that one owned", x.first(), 0);
        due(21, "when(3, 0)", x.when(3, 0), -1);
        due(21, "when(-1, 0)", x.when(-1, 0), -1);
        due(21, "when(0, 3)", x.when(0, 3), -1);
        due(21, "when(0, -1)", x.when(0, -1), -1);
        x.owns(2, -1);
        x.stands(0, 2);
        due(22, "first() of two at once", x.first(), 0);
        x.carries(0, 0);
        x.carries(2, 0);
        due(22, "first() of none", x.first(), -9);
        OnlyInFog y = new OnlyInFog();
        y.blows(BANK, 9, 1);
        due(23, "clears(1), clear now", y.clears(1), 0);
        due(23, "clears(0), never", y.clears(0), -9);
        y.hours(1);
        due(23, "clears(1)", y.clears(1), 2);
        due(23, "clears(7)", y.clears(7), 2);
        due(23, "clears(2)", y.clears(2), 0);
        due(23, "clears(24)", y.clears(24), -1);
        due(23, "clears(-1)", y.clears(-1), -1);
        y.comes(WIDOW, 0, 1);
        due(23, "clears(1) under steam", y.clears(1), -9);
        y.comes(BREWER, 0, 23);
        y.stands(1, 5);
        due(23, "clears(5), he goes", y.clears(5), 1);
    }

    /**
     * The first columns' second cells are clear in hours 11 and 77 alone (HAAR lacks there where the
     * hour's rest over 6 is 5, BANK where its rest over 11 is 0).
     */
    private static OnlyInFog clearInHour77(int hour) {
        OnlyInFog x = new OnlyInFog();
        x.blows(HAAR, 6, 0);
        x.blows(BANK, 9, 9);
        x.comes(THIEF, 0, 1);
        x.comes(MAN, 0, 23);
        x.lies(9, 1);
        x.lies(1, 7);
        x.hours(hour);
        x.owns(0, 1);
        x.owns(1, -1);
        x.stands(0, 1);
        return x;
    }

    private static void edgeOfSixtyHours() {
        due(23, "clears(1) behind 60", clearInHour77(17).clears(1), 60);
        due(23, "clears(1) behind 61", clearInHour77(16).clears(1), -9);
        // In hour 77 the man's thing is dropped; in hour 78 the thief has it, in 79 the other.
        due(21, "when(0, 0) behind 60", clearInHour77(18).when(0, 0), 60);
        due(21, "when(0, 0) behind 61", clearInHour77(17).when(0, 0), -9);
        due(22, "first() behind 60", clearInHour77(19).first(), 1);
        due(22, "first() behind 61", clearInHour77(18).first(), -9);
    }

    // ---- 24, 25 ----

    private static void standAndKettle() {
        OnlyInFog x = foggy();
        x.comes(MAN, 0, 20);
        x.lies(7, 20);
        int[] cells = {0, 14, 8, 2, 1, 0};
        for (int n = 0; n < cells.length; n++) {
            due(24, "stand(0, " + n + ", 0)", x.stand(0, n, 0), cells[n]);
            due(24, "stand(0, " + n + ", 1)", x.stand(0, n, 1), n == 0 ? 0 : 7);
        }
        due(24, "stand(0, 30, 0)", x.stand(0, 30, 0), 0);
        x.owns(0, 0);
        due(24, "stand(0, 0, 1), his now", x.stand(0, 0, 1), 7);
        x.lies(2, 19);
        x.owns(0, -1);
        due(24, "stand(0, 2, 0), one on the way", x.stand(0, 2, 0), 13);
        due(24, "stand(0, 2, 1), one on the way", x.stand(0, 2, 1), 9);
        due(24, "stand(1, -1, 9)", x.stand(1, -1, 9), -1);
        due(24, "stand(-1, 0, 0)", x.stand(-1, 0, 0), -1);
        due(24, "stand(0, -1, 9)", x.stand(0, -1, 9), -4);
        due(24, "stand(0, 31, 9)", x.stand(0, 31, 9), -6);
        due(24, "stand(0, 30, 2)", x.stand(0, 30, 2), -2);
        due(24, "stand(0, 30, -1)", x.stand(0, 30, -1), -2);
        due(24, "he stays where he is", x.person(0, 3), 20);

        OnlyInFog y = new OnlyInFog();
        y.thick(9);
        y.comes(MAN, 0, 20);
        y.comes(LAWYER, 9, 20);
        y.lies(7, 20);
        y.lies(7, 0);
        due(25, "kettle(0, 0, 0)", y.kettle(0, 0, 0), -9);
        due(25, "kettle(0, 0, 1)", y.kettle(0, 0, 1), 20);
        due(25, "kettle(0, 0, 30)", y.kettle(0, 0, 30), 20);
        due(25, "kettle(0, 1, 30)", y.kettle(0, 1, 30), -9);
        // A kettle is no air: the lawyer goes to cell 0, whether it stands there or not.
        due(25, "kettle(1, 1, 1)", y.kettle(1, 1, 1), -9);
        due(25, "kettle(1, 1, 2)", y.kettle(1, 1, 2), 0);
        due(25, "kettle(1, 0, 9)", y.kettle(1, 0, 9), -9);
        y.owns(1, 0);
        due(25, "kettle(0, 1, 0), his now", y.kettle(0, 1, 0), 0);
        due(25, "kettle(0, 1, 1), kept", y.kettle(0, 1, 1), 0);
        due(25, "kettle(2, 0, -1)", y.kettle(2, 0, -1), -1);
        due(25, "kettle(-1, 0, 0)", y.kettle(-1, 0, 0), -1);
        due(25, "kettle(0, 2, -1)", y.kettle(0, 2, -1), -1);
        due(25, "kettle(0, -1, 0)", y.kettle(0, -1, 0), -1);
        due(25, "kettle(0, 0, -1)", y.kettle(0, 0, -1), -4);
        due(25, "kettle(0, 0, 31)", y.kettle(0, 0, 31), -6);
        due(25, "no kettle stays", y.count(9), 0);
        OnlyInFog z = foggy();
        z.comes(MAN, 0, 20);
        z.lies(7, 20);
        due(25, "of several the least", z.kettle(0, 0, 1), 0);
    }

    // ---- 26 ----

    private static void withoutAFront() {
        OnlyInFog x = new OnlyInFog();
        due(26, "without(0, 0) of none", x.without(0, 0), -9);
        due(26, "without(0, 1) of none", x.without(0, 1), -9);
        due(26, "without(-1, 9)", x.without(-1, 9), -4);
        due(26, "without(61, 9)", x.without(61, 9), -6);
        due(26, "without(60, 2)", x.without(60, 2), -2);
        due(26, "without(60, -1)", x.without(60, -1), -2);
        x.blows(RIVER, 9, 0);
        x.blows(DEW, 9, 1);
        x.blows(RIVER, 9, 1);
        // Even hours: all but the dew leave all in fog; odd ones: a river leaves the other.
        due(26, "without(0, 0)", x.without(0, 0), 1);
        due(26, "without(0, 1)", x.without(0, 1), 12);
        due(26, "without(1, 0)", x.without(1, 0), 0);
        due(26, "without(1, 1)", x.without(1, 1), 6);
        due(26, "without(60, 0)", x.without(60, 0), 1);
        due(26, "without(60, 1)", x.without(60, 1), 12);
        due(26, "all FRONTS stay", x.count(2), 3);
        due(26, "all FRONTS stay", x.count(9), ALL_CELLS);
        x.blows(LIFT, 7, 0);
        due(26, "without(0, 0) behind a LIFT", x.without(0, 0), 0);
        due(26, "without(0, 1) behind a LIFT", x.without(0, 1), 0);
        x.comes(WIDOW, 0, 4);
        due(26, "without(0, 1), with steam", x.without(0, 1), 1);
        // Who goes for air goes elsewhere without the front that told it.
        OnlyInFog y = new OnlyInFog();
        y.comes(JUDGE, 3, 18);
        y.blows(RIVER, 2, 3);
        y.blows(RIVER, 3, 2);
        due(26, "without(1, 0)", y.without(1, 0), 1);
        due(26, "without(1, 1)", y.without(1, 1), 1);
        due(26, "as it is", Integer.bitCount(y.then(1, 0)), 6);
    }

    // ---- 27 ----

    private static void swapped() {
        OnlyInFog x = foggy();
        due(27, "swap(5) of nobody", x.swap(5), -9);
        x.comes(MAN, 0, 0);
        due(27, "swap(5) of one", x.swap(5), -9);
        x.comes(BREWER, 0, 23);
        x.lies(1, 0);
        x.lies(1, 0);
        x.lies(1, 0);
        due(27, "swap(0)", x.swap(0), -9);
        due(27, "swap(1)", x.swap(1), 1);
        due(27, "swap(3), no more than as it is", x.swap(3), -9);
        x.comes(LAWYER, 9, 23);
        due(27, "swap(1), of several the first", x.swap(1), 1);
        x.lies(1, 0);
        due(27, "swap(1), the most", x.swap(1), 2);
        due(27, "swap(-1)", x.swap(-1), -4);
        due(27, "swap(31)", x.swap(31), -6);
        due(27, "all stays", x.person(0, 0), MAN);
        // The lawyer's figure must go with him; a child behind him grabs by his own.
        OnlyInFog y = foggy();
        y.comes(MAN, 9, 23);
        y.comes(CHILD, 0, 0);
        y.comes(LAWYER, 4, 23);
        for (int i = 0; i < 5; i++) {
            y.lies(1, 0);
        }
        due(27, "swap(1), the figure too", y.swap(1), 12);
        y.stands(2, 18);
        due(27, "swap(30)", y.swap(30), -9);
    }

    // ---- 28, 29 ----

    private static void whatKindByRow() {
        OnlyInFog x = new OnlyInFog();
        x.comes(MAN, 0, 0);
        x.comes(MAN, 3, 0);
        x.comes(LAWYER, 0, 0);
        x.comes(JUDGE, 0, 0);
        for (int person = 0; person < 4; person++) {
            x.stands(person, 2);
        }
        due(28, "whatKind(0, 0) of an empty ROW", x.whatKind(0, 0), 255);
        due(28, "whatKind(0, 1) of an empty ROW", x.whatKind(0, 1), 1023);
        x.row(2);
        due(28, "whatKind(0, 0) of where he is", x.whatKind(0, 0), 255);
        x.row(1);
        x.row(0);
        due(28, "a cell an hour, FIGURE 0", x.whatKind(0, 0), 1 << MAN | 1 << LAWYER);
        due(28, "a cell an hour, FIGURE 3", x.whatKind(1, 0), 1 << MAN | 1 << JUDGE);
        due(28, "a cell an hour, a MAN", x.whatKind(0, 1), 1023);
        due(28, "a cell an hour, a LAWYER", x.whatKind(2, 1), 7);
        due(28, "a cell an hour, a JUDGE", x.whatKind(3, 1), 7 << 3);
        due(28, "the ROW stays", x.count(7), 3);
        due(28, "all stays", x.person(2, 1), 0);
        due(28, "whatKind(4, 2)", x.whatKind(4, 2), -1);
        due(28, "whatKind(-1, 0)", x.whatKind(-1, 0), -1);
        due(28, "whatKind(0, 2)", x.whatKind(0, 2), -2);
        due(28, "whatKind(0, -1)", x.whatKind(0, -1), -2);
        x.row(24);
        due(28, "no such cell", x.whatKind(0, 0), 0);
        x.clear();
        x.row(3);
        due(28, "he is elsewhere now", x.whatKind(0, 0), 0);
        due(28, "he is elsewhere now", x.whatKind(0, 1), 0);
        x.clear();
        x.row(2);
        x.row(2);
        due(28, "who stays", x.whatKind(0, 0), 1 << WIDOW | 1 << JUDGE);
        // Twelve told: three cells a hour home, then there.
        x.stands(0, 9);
        x.clear();
        x.row(9);
        for (int i = 0; i < 11; i++) {
            x.row(i == 0 ? 1 : 0);
        }
        due(28, "by three cells", x.whatKind(0, 0), 1 << DUKE);
    }

    private static void whichFrontByRow() {
        OnlyInFog x = new OnlyInFog();
        x.blows(RIVER, 5, 2);
        due(29, "an empty ROW", x.whichFront(0, 0), 127);
        x.row(5);
        due(29, "AIR 5 now", x.whichFront(0, 0), 1 << BANK | 1 << DEW | 1 << HAAR);
        due(29, "AIR 5 now in row 2", x.whichFront(0, 12), 1 << BANK | 1 << RIVER | 1 << DEW | 1 << HAAR);
        x.row(0);
        x.row(0);
        x.row(5);
        due(29, "AIR each third hour", x.whichFront(0, 0), 1 << DEW);
        due(29, "the ROW stays", x.count(7), 4);
        due(29, "the FRONT stays", x.front(0, 0), RIVER);
        due(29, "whichFront(1, 0)", x.whichFront(1, 0), -1);
        due(29, "whichFront(-1, 0)", x.whichFront(-1, 0), -1);
        due(29, "whichFront(0, 24)", x.whichFront(0, 24), -1);
        due(29, "whichFront(0, -1)", x.whichFront(0, -1), -1);
        x.clear();
        x.row(0);
        int nothing = 1 << LIFT | 1 << MIRROR | 1 << LATER;
        due(29, "AIR 0", x.whichFront(0, 0), nothing | 1 << RIVER);
        x.hours(1);
        due(29, "AIR 0 in hour 1", x.whichFront(0, 5), nothing | 1 << RIVER | 1 << DEW | 1 << BANK);
        x.comes(WIDOW, 0, 5);
        due(29, "steam is no AIR", x.whichFront(0, 5), nothing | 1 << RIVER | 1 << DEW | 1 << BANK);
        x.blows(RIVER, 5, 0);
        due(29, "behind all FRONTS", x.whichFront(0, 5), 0);
        x.clear();
        x.row(5);
        due(29, "behind all FRONTS", x.whichFront(0, 5), 127);
        due(29, "the one behind", x.whichFront(1, 17), 127 & ~(1 << LIFT));
    }

    // ---- 30 ----

    private static void twoChoose() {
        for (int worth = 5; worth <= 7; worth++) {
            OnlyInFog x = foggy();
            x.comes(MAN, 0, 0);
            x.comes(WIDOW, 0, 23);
            x.stands(0, 3);
            x.lies(worth, 0);
            x.lies(6, 2);
            due(30, "two(0, 1, 1), WORTH at HOME " + worth, x.two(0, 1, 1), worth > 6 ? 10 : 0);
            due(30, "two(1, 0, 1), WORTH at HOME " + worth, x.two(1, 0, 1), worth > 6 ? 1 : 0);
            due(30, "he stays where he is", x.person(0, 3), 3);
            due(30, "two(0, 1, 0)", x.two(0, 1, 0), -4);
            due(30, "two(0, 1, 31)", x.two(0, 1, 31), -6);
            due(30, "two(0, 1, 30)", x.two(0, 1, 30), 0);
            due(30, "two(0, 0, 0)", x.two(0, 0, 0), -1);
            due(30, "two(0, 2, 0)", x.two(0, 2, 0), -1);
            due(30, "two(2, 0, 0)", x.two(2, 0, 0), -1);
            due(30, "two(-1, 0, 1)", x.two(-1, 0, 1), -1);
            due(30, "two(0, -1, 1)", x.two(0, -1, 1), -1);
        }
        OnlyInFog both = foggy();
        both.comes(MAN, 0, 0);
        both.comes(MAN, 0, 23);
        both.stands(0, 3);
        both.stands(1, 20);
        both.lies(9, 0);
        both.lies(9, 23);
        due(30, "both go HOME", both.two(0, 1, 1), 11);
        // 00 gives 4 and 3, 01 gives 7 and -3, 10 gives 6 and -3, 11 gives 3 and 4.
        OnlyInFog none = foggy();
        none.comes(CHILD, 8, 3);
        none.comes(THIEF, 6, 0);
        none.stands(0, 0);
        none.stands(1, 5);
        none.lies(6, 3);
        none.lies(7, 1);
        due(30, "one of them always has more otherwise", none.two(0, 1, 1), -9);
        due(30, "one of them always has more otherwise", none.two(1, 0, 1), -9);
        // By a third of the other's he would go HOME with 3, too: 3 less 1 against 5 less 2.
        halfOfTheOthers(3, 0, 0);
        halfOfTheOthers(2, 10, 1);
        halfOfTheOthers(4, 0, 0);
    }

    /** The first has `worth` here and the other 5, or 5 at HOME and the other 8: 2 or 4 are half of these. */
    private static void halfOfTheOthers(int worth, int due, int dueTurned) {
        OnlyInFog x = foggy();
        x.comes(WIDOW, 0, 0);
        x.comes(WIDOW, 0, 0);
        x.stands(0, 1);
        x.lies(5, 0);
        x.lies(worth, 1);
        x.lies(8, 0);
        due(30, "two(0, 1, 1), less half, WORTH " + worth, x.two(0, 1, 1), due);
        due(30, "two(1, 0, 1), less half, WORTH " + worth, x.two(1, 0, 1), dueTurned);
    }

    // ---- 31 ----

    private static void sun(OnlyInFog x, int n, int t, long above, long below) {
        due(31, "sun(0, 0, " + n + ", " + t + ", 0)", x.sun(0, 0, n, t, 0), above);
        due(31, "sun(0, 0, " + n + ", " + t + ", 1)", x.sun(0, 0, n, t, 1), below);
    }

    private static void sunnyHours() {
        // He has it if the last hour is without sun.
        OnlyInFog x = foggy();
        x.comes(MAN, 0, 0);
        x.comes(MAN, 0, 23);
        x.lies(5, 0);
        sun(x, 0, 2, 0, 1);
        sun(x, 1, 2, 1, 2);
        sun(x, 1, 20, 19, 20);
        sun(x, 2, 20, 19, 20);
        sun(x, 7, 20, 19, 20);
        sun(x, 7, 3, 2, 3);
        x.owns(0, 0);
        sun(x, 0, 2, 1, 1);
        // It is another's now: a sunny hour ahead of the last must drop it.
        x.owns(0, 1);
        sun(x, 0, 2, 0, 1);
        sun(x, 1, 3, 0, 1);
        sun(x, 2, 3, 2, 9);
        sun(x, 3, 3, 10, 27);
        sun(x, 7, 20, 322128261L, 1280000000L);
        due(31, "the other keeps it", x.sun(1, 0, 2, 3, 0), 4);
        due(31, "the other keeps it", x.sun(1, 0, 2, 3, 1), 9);
        // Steam is there in sunny hours, too.
        OnlyInFog y = foggy();
        y.comes(WIDOW, 0, 0);
        y.lies(5, 0);
        sun(y, 7, 2, 1, 1);
        // In a sunny hour a lawyer goes to cell 0: behind two he is too far away to be back.
        OnlyInFog z = new OnlyInFog();
        z.blows(RIVER, 9, 3);
        z.comes(LAWYER, 1, 18);
        z.lies(5, 18);
        sun(z, 2, 2, 1, 2);
        sun(z, 3, 2, 3, 8);
        // What is told later is told as if there had been no sun.
        OnlyInFog w = new OnlyInFog();
        w.blows(DEW, 9, 1);
        w.blows(LATER, 0, 1);
        w.comes(MAN, 0, 0);
        w.lies(5, 0);
        sun(w, 1, 2, 1, 2);
        sun(w, 2, 2, 0, 1);
        sun(w, 3, 2, 1, 2);
    }

    private static void sunnyEdges() {
        OnlyInFog x = foggy();
        x.comes(MAN, 0, 0);
        x.lies(5, 0);
        due(31, "sun(1, 0, -1, 0, 9)", x.sun(1, 0, -1, 0, 9), LONG + 1);
        due(31, "sun(-1, 0, 1, 2, 0)", x.sun(-1, 0, 1, 2, 0), LONG + 1);
        due(31, "sun(0, 1, 1, 2, 0)", x.sun(0, 1, 1, 2, 0), LONG + 1);
        due(31, "sun(0, -1, 1, 2, 0)", x.sun(0, -1, 1, 2, 0), LONG + 1);
        due(31, "sun(0, 0, -1, 21, 9)", x.sun(0, 0, -1, 21, 9), LONG + 4);
        due(31, "sun(0, 0, 8, 1, 9)", x.sun(0, 0, 8, 1, 9), LONG + 4);
        due(31, "sun(0, 0, 8, 2, 9)", x.sun(0, 0, 8, 2, 9), LONG + 6);
        due(31, "sun(0, 0, 7, 21, 9)", x.sun(0, 0, 7, 21, 9), LONG + 6);
        due(31, "sun(0, 0, 7, 20, 2)", x.sun(0, 0, 7, 20, 2), LONG + 2);
        due(31, "sun(0, 0, 7, 20, -1)", x.sun(0, 0, 7, 20, -1), LONG + 2);
        due(31, "count(11)", x.count(11), 4);
        due(31, "count(12)", x.count(12), 2);
        due(31, "count(14)", x.count(14), 2);
        due(31, "count(16)", x.count(16), 2);
        due(31, "no sun stays", x.then(1, 0), ALL_CELLS);
    }

    // ---- 32, 33, 34 ----

    private static void islandsAndWays() {
        // Rows 0 and 2 in fog, and steam on cell 6 between them, on 23 by itself.
        OnlyInFog x = new OnlyInFog();
        due(32, "islands(-1)", x.islands(-1), 0);
        due(32, "islands(-2)", x.islands(-2), 0);
        due(32, "islands(5)", x.islands(5), 0);
        due(34, "way(5, 5)", x.way(5, 5), -9);
        x.blows(RIVER, 9, 0);
        x.blows(RIVER, 9, 2);
        int upper = 63;
        int lower = 63 << 12;
        due(32, "islands(-1)", x.islands(-1), 2);
        due(32, "islands(-2)", x.islands(-2), 6);
        due(32, "islands(0)", x.islands(0), upper);
        due(32, "islands(17)", x.islands(17), lower);
        due(32, "islands(6)", x.islands(6), 0);
        due(34, "way(0, 5)", x.way(0, 5), 5);
        due(34, "way(0, 12)", x.way(0, 12), -9);
        due(34, "way(5, 6), the row's end", x.way(5, 6), -9);
        x.comes(WIDOW, 0, 6);
        x.comes(WIDOW, 0, 23);
        x.comes(WIDOW, 0, 18);
        x.stands(2, 7);
        int joined = upper | lower | 1 << 6 | 1 << 7 | 1 << 23;
        due(32, "islands(-1)", x.islands(-1), 1);
        due(32, "islands(-2)", x.islands(-2), 15);
        due(32, "islands(23)", x.islands(23), joined);
        due(34, "way(5, 17)", x.way(5, 17), 10);
        due(34, "way(5, 23)", x.way(5, 23), 11);
        due(34, "way(23, 5)", x.way(23, 5), 11);
        due(34, "way(6, 6)", x.way(6, 6), 0);
        due(34, "way(6, 8)", x.way(6, 8), -9);
        due(34, "way(8, 6)", x.way(8, 6), -9);
        due(34, "way(24, 0)", x.way(24, 0), -1);
        due(34, "way(-1, 0)", x.way(-1, 0), -1);
        due(34, "way(0, 24)", x.way(0, 24), -1);
        due(34, "way(0, -1)", x.way(0, -1), -1);
        due(32, "islands(-3)", x.islands(-3), -1);
        due(32, "islands(24)", x.islands(24), -1);
        for (int cell : new int[] {0, 5, 18, 23}) {
            OnlyInFog lone = new OnlyInFog();
            lone.comes(WIDOW, 0, cell);
            due(32, "islands(-1), a lone CELL " + cell, lone.islands(-1), 1);
            due(32, "islands(-2), a lone CELL " + cell, lone.islands(-2), 1);
            due(32, "islands(" + cell + ")", lone.islands(cell), 1 << cell);
            due(34, "way() on a lone CELL " + cell, lone.way(cell, cell), 0);
        }
        // Columns 0 and 5 in fog: no way round the edge.
        OnlyInFog y = new OnlyInFog();
        y.blows(BANK, 9, 0);
        y.blows(MIRROR, 0, 0);
        y.blows(BANK, 9, 0);
        due(32, "islands(-1) of two columns", y.islands(-1), 2);
        due(32, "islands(-2) of two columns", y.islands(-2), 4);
        due(32, "islands(0)", y.islands(0), 266305);
        due(32, "islands(23)", y.islands(23), 266305 << 5);
        due(34, "way(0, 18)", y.way(0, 18), 3);
        due(34, "way(5, 6)", y.way(5, 6), -9);
        due(34, "way(6, 5)", y.way(6, 5), -9);
    }

    private static void clearRuns() {
        OnlyInFog x = new OnlyInFog();
        due(33, "clearRun() without fog", x.clearRun(), 60);
        x.blows(DEW, 9, 9);
        due(33, "clearRun() between dews", x.clearRun(), 9);
        x.blows(DEW, 9, 6);
        // Fog in hours 7, 10, 14, 20, 21, 28, 30, 35, 40, 42, 49, 50, 56, 60.
        due(33, "clearRun()", x.clearRun(), 6);
        x.hours(1);
        due(33, "clearRun(), the first cut", x.clearRun(), 6);
        x.comes(WIDOW, 0, 0);
        due(33, "clearRun() under steam", x.clearRun(), 0);
        OnlyInFog y = new OnlyInFog();
        y.comes(JUDGE, 0, 0);
        y.thick(4);
        due(33, "clearRun(), too little steam", y.clearRun(), 60);
        y.thick(3);
        due(33, "clearRun(), enough", y.clearRun(), 0);
    }

    // ---- 35, 36 ----

    private static void shares() {
        OnlyInFog x = new OnlyInFog();
        due(35, "share(0, 0) of nobody", x.share(0, 0), LONG + 1);
        x.comes(MAN, 0, 0);
        x.comes(MAN, 0, 0);
        due(35, "share(0, 0) of nothing", x.share(0, 0), 0);
        due(35, "share(0, 1) of nothing", x.share(0, 1), 1);
        x.lies(0, 0);
        x.owns(0, 0);
        due(35, "share(0, 0) of no WORTH", x.share(0, 0), 0);
        due(35, "share(0, 1) of no WORTH", x.share(0, 1), 1);
        x.lies(6, 0);
        due(35, "share(0, 0), none his", x.share(0, 0), 0);
        due(35, "share(0, 1), none his", x.share(0, 1), 1);
        x.owns(1, 1);
        due(35, "share(1, 0), all his", x.share(1, 0), 1);
        due(35, "share(1, 1), all his", x.share(1, 1), 1);
        x.lies(3, 0);
        due(35, "share(1, 0)", x.share(1, 0), 2);
        due(35, "share(1, 1)", x.share(1, 1), 3);
        x.lies(1, 0);
        due(35, "share(1, 0)", x.share(1, 0), 3);
        due(35, "share(1, 1)", x.share(1, 1), 5);
        due(35, "share(2, 9)", x.share(2, 9), LONG + 1);
        due(35, "share(-1, 0)", x.share(-1, 0), LONG + 1);
        due(35, "share(0, 2)", x.share(0, 2), LONG + 2);
        due(35, "share(0, -1)", x.share(0, -1), LONG + 2);
        due(35, "count(11)", x.count(11), 3);
        due(35, "count(12)", x.count(12), 2);
    }

    private static void sights() {
        OnlyInFog x = new OnlyInFog();
        int[] none = {-9, 0, 0, -9, 60, -2};
        for (int what = 0; what < none.length; what++) {
            due(36, "sight(" + what + ") of none", x.sight(what), none[what]);
        }
        due(36, "sight(-1)", x.sight(-1), -2);
        x.lies(3, 0);
        x.lies(4, 6);
        x.lies(1, 1);
        x.comes(MAN, 0, 20);
        x.comes(MAN, 0, 9);
        x.comes(MAN, 0, 21);
        due(36, "RICHEST, all have nothing", x.sight(0), 0);
        due(36, "DROPPED", x.sight(1), 7);
        due(36, "CROWD of ones", x.sight(3), 9);
        x.owns(1, 2);
        x.owns(0, 1);
        x.owns(2, 1);
        due(36, "RICHEST of several", x.sight(0), 1);
        x.owns(2, 0);
        due(36, "RICHEST", x.sight(0), 2);
        x.owns(1, -1);
        due(36, "DROPPED", x.sight(1), 2);
        x.stands(2, 20);
        due(36, "CROWD", x.sight(3), 20);
        due(36, "WET", x.sight(2), 0);
        x.blows(RIVER, 3, 0);
        due(36, "WET", x.sight(2), 5);
        x.comes(WIDOW, 0, 6);
        due(36, "WET by steam", x.sight(2), 7);
        OnlyInFog y = new OnlyInFog();
        y.blows(DEW, 9, 9);
        due(36, "ALIKE, all in fog", y.sight(4), 6);
        y.hours(1);
        due(36, "ALIKE, none in fog", y.sight(4), 54);
        y.blows(HAAR, 3, 0);
        // A column each hour, but where the dew is.
        due(36, "ALIKE, by number", y.sight(4), 54);
        y.comes(WIDOW, 0, 0);
        // Steam joins all columns but its own: column 0 is in fog in hours 6, 12 .. 60, the dew in 10 .. 60,
        // in 30 and 60 both.
        due(36, "ALIKE, with steam", y.sight(4), 46);
    }

    // ---- 37 .. 40 ----

    private static void kindsAndRows() {
        OnlyInFog x = new OnlyInFog();
        int[] kinds = {THIEF, CHILD, THIEF, DUKE, MAN};
        for (int kind : kinds) {
            x.comes(kind, 0, 0);
        }
        int[] found = {1, 1, 2, 0, 0, 0, 0, 1};
        for (int kind = 0; kind < 8; kind++) {
            due(37, "kinds(" + kind + ")", x.kinds(kind), found[kind]);
        }
        due(37, "kinds(8)", x.kinds(8), -2);
        due(37, "kinds(-1)", x.kinds(-1), -2);
        due(38, "row(-1)", x.row(-1), -4);
        due(38, "row(100)", x.row(100), -6);
        due(38, "row(99)", x.row(99), 1);
        due(38, "row(0)", x.row(0), 2);
        due(40, "clear()", x.clear(), 2);
        due(40, "clear()", x.clear(), 0);
        for (int n = 1; n <= 12; n++) {
            due(38, "row(9)", x.row(9), n);
        }
        due(38, "row(9) of 12", x.row(9), -6);
        due(38, "row(-1) of 12", x.row(-1), -4);
        due(39, "judge() of 12, nothing there", x.judge(), 0);
        due(39, "the ROW has none then", x.count(7), 0);
        due(39, "judge() of none", x.judge(), -9);
        for (int i = 0; i < 3; i++) {
            x.lies(1, 0);
        }
        x.owns(1, 4);
        int[][] rows = {{9, 4, 9}, {9, 4}, {9, 4, 9, 9}, {9, 4, 0}, {9, 9}, {0}, {9, 3, 9}, {99}, {9, 4, 9, 0}};
        int[] judged = {-9, -9, 3, 2, 1, 0, 1, 0, 3};
        for (int i = 0; i < rows.length; i++) {
            for (int v : rows[i]) {
                x.row(v);
            }
            due(39, "judge() of row " + i, x.judge(), judged[i]);
            due(39, "the ROW has none then", x.clear(), 0);
        }
    }

    // ---- 41 ----

    private static void lotsOfDays() {
        // z 1 draws cell 14 first, z 0 cell 0, z -1 cell 17.
        int[] seeds = {1, 0, -1};
        int[] cells = {14, 0, 17};
        for (int i = 0; i < seeds.length; i++) {
            for (int home = 0; home < 24; home++) {
                OnlyInFog x = foggy();
                x.comes(MAN, 0, home);
                x.lies(7, home);
                due(41, "lots(1, " + seeds[i] + ", 0)", x.lots(1, seeds[i], 0), home == cells[i] ? 1 : 0);
                due(41, "lots(1, " + seeds[i] + ", 1)", x.lots(1, seeds[i], 1), home == cells[i] ? 7 : 0);
            }
        }
        OnlyInFog x = foggy();
        due(41, "lots(20, 1, 0) of nothing", x.lots(20, 1, 0), 0);
        x.comes(CHILD, 9, 0);
        x.lies(3, 5);
        x.lies(4, 5);
        due(41, "a CHILD finds all", x.lots(20, 12345, 0), 40);
        due(41, "a CHILD finds all", x.lots(20, 12345, 1), 140);
        due(41, "lots(0, 0, 9)", x.lots(0, 0, 9), -4);
        due(41, "lots(21, 0, 9)", x.lots(21, 0, 9), -6);
        due(41, "lots(20, 0, 2)", x.lots(20, 0, 2), -2);
        due(41, "lots(20, 0, -1)", x.lots(20, 0, -1), -2);
        due(41, "all stays: HOUR", x.count(3), 0);
        due(41, "all stays: CELL", x.thing(0, 1), 5);
        // Owned now, nobody's then: the widow far from what is drawn finds none.
        OnlyInFog y = foggy();
        y.comes(WIDOW, 0, 23);
        y.lies(3, 23);
        y.owns(0, 0);
        due(41, "nobody's then", y.lots(1, 1, 0), 0);
        // Ten hours: eight steps are enough, what is dropped in the last is not owned.
        OnlyInFog z = new OnlyInFog();
        z.blows(DEW, 9, 9);
        z.comes(MAN, 0, 14);
        z.lies(5, 0);
        due(41, "fog in the tenth hour", z.lots(1, 1, 0), 1);
        z.hours(1);
        due(41, "fog in the ninth hour", z.lots(1, 1, 0), 0);
        // The draws go on from day to day: the second of z 0 is drawn from 12345.
        OnlyInFog w = foggy();
        w.comes(MAN, 0, 0);
        w.lies(5, 3);
        int second = (12345 * 1103515245 + 12345 & Integer.MAX_VALUE) / 65536 % 24;
        due(41, "lots(2, 0, 0)", w.lots(2, 0, 0), second == 0 ? 2 : 1);
        OnlyInFog v = foggy();
        v.comes(MAN, 0, second);
        v.lies(5, 3);
        due(41, "lots(1, 12345, 0)", v.lots(1, 12345, 0), 1);
        due(41, "lots(2, 0, 0)", v.lots(2, 0, 0), second == 0 ? 2 : 1);
    }

    // ---- 42, 43 ----

    private static void images() {
        OnlyInFog x = new OnlyInFog();
        due(43, "restore() of none", x.restore(), -3);
        tell(x, "f290;p2507;t507;k4;h07;");
        due(42, "image()", x.image(), 7);
        due(42, "thing(0, 2)", x.thing(0, 2), 0);
        x.blows(LIFT, 9, 0);
        x.comes(MAN, 0, 0);
        x.lies(0, 0);
        x.thick(9);
        x.owns(0, -1);
        x.stands(0, 1);
        x.carries(0, 2);
        x.hours(9);
        x.feed('k');
        x.row(5);
        due(42, "it leaves what can be TAKEN BACK", x.count(8), 5);
        int refused = x.count(13);
        due(43, "restore()", x.restore(), 7);
        int[] counts = {1, 1, 1, 7, 4, 1, 1, 1, 0, ALL_CELLS};
        for (int what = 0; what < counts.length; what++) {
            due(43, "count(" + what + ")", x.count(what), counts[what]);
        }
        due(43, "count(13)", x.count(13), refused);
        due(43, "person(0, 3)", x.person(0, 3), 7);
        due(43, "thing(0, 1)", x.thing(0, 1), 7);
        due(43, "thing(0, 2)", x.thing(0, 2), 0);
        due(43, "front(0, 0)", x.front(0, 0), DEW);
        x.hours(3);
        due(43, "restore() again", x.restore(), 7);
        x.hours(3);
        due(42, "image() anew", x.image(), 10);
        due(42, "it leaves what can be TAKEN BACK", x.back(), 0);
        due(43, "restore() of the new one", x.restore(), 10);
        x.thick(9);
        due(43, "the image stays as it was", x.restore() + x.count(4), 14);
    }

    /** FRONTS that differ from those ahead of restore() by one number alone. */
    private static void airBehindImages() {
        OnlyInFog x = new OnlyInFog();
        x.image();
        int[][] fronts = {{RIVER, 9, 0}, {RIVER, 2, 0}, {RIVER, 2, 1}, {DEW, 2, 1}, {DEW, 4, 1}, {DEW, 4, 6}};
        int[] first = {9, 2, 0, 2, 4, 4};
        for (int i = 0; i < fronts.length; i++) {
            x.blows(fronts[i][0], fronts[i][1], fronts[i][2]);
            due(7, "cell(0, 0) by FRONT " + i, x.cell(0, 0), first[i]);
            due(43, "restore() ahead of FRONT " + i, x.restore(), 0);
        }
        due(43, "cell(0, 0) without a FRONT", x.cell(0, 0), 0);
    }

    // ---- 44 ----

    private static void counts() {
        OnlyInFog x = foggy();
        x.comes(MAN, 0, 0);
        x.comes(MAN, 0, 1);
        x.lies(1, 0);
        x.lies(1, 1);
        x.lies(1, 2);
        x.thick(5);
        x.hours(4);
        x.feed(7);
        x.row(1);
        x.row(2);
        int[] counts = {2, 3, 1, 4, 5, 2, 1, 2, 2, ALL_CELLS, -9, 0, 0, 0, 0, 0, 0, -9};
        for (int what = 0; what < counts.length; what++) {
            due(44, "count(" + what + ")", x.count(what), counts[what]);
        }
        due(44, "count(-1)", x.count(-1), -9);
        due(44, "count() of the least", x.count(Integer.MIN_VALUE), -9);
        due(44, "count() of the greatest", x.count(Integer.MAX_VALUE), -9);
        x.thing(9, 0);
        x.kinds(9);
        x.kinds(9);
        x.restore();
        x.restore();
        x.restore();
        for (int i = 0; i < 4; i++) {
            x.hours(0);
        }
        for (int i = 0; i < 6; i++) {
            x.hours(61);
        }
        int[] refusals = {1, 2, 3, 4, 0, 6};
        for (int i = 0; i < refusals.length; i++) {
            due(44, "count(" + (11 + i) + ")", x.count(11 + i), refusals[i]);
        }
        due(44, "a refusal changes nothing else: HOUR", x.count(3), 4);
        due(44, "a refusal changes nothing else: TAKEN BACK", x.count(8), 2);
    }
}

/**
 * A coast of cells over which fog comes by fronts, things that are somebody's only where it is
 * thick enough, and people of kinds who go by hours and grab there.
 *
 * Every question about what will be is answered by one scratch coast (Mind), which is made once
 * and starts again from the coast as it is: so a call makes no objects.
 */
public final class OnlyInFog {
    private static final int CELLS = 24;
    private static final int COLUMNS = 6;
    private static final int LAST_COLUMN = 5;
    private static final int ROWS = 4;

    private static final int MOST_FRONTS = 6;
    private static final int MOST_THINGS = 8;
    private static final int MOST_PEOPLE = 5;
    private static final int MOST_LETTERS = 96;
    private static final int MOST_IN_ROW = 12;
    private static final int MOST_BACK = 8;
    private static final int LAST_DIGIT = 9;
    private static final int LAST_LETTER = 255;
    private static final int LAST_HOUR = 999;
    private static final int FAR_HOURS = 60;
    private static final int NEAR_HOURS = 30;
    private static final int MOST_THICK = 9;
    private static final int FIRST_THICK = 3;

    private static final int SORTS = 7;
    private static final int BANK = 0;
    private static final int RIVER = 1;
    private static final int DEW = 2;
    private static final int HAAR = 3;
    private static final int LIFT = 4;
    private static final int MIRROR = 5;
    private static final int LATER = 6;

    private static final int KINDS = 8;
    private static final int MAN = 0;
    private static final int CHILD = 1;
    private static final int THIEF = 2;
    private static final int WIDOW = 3;
    private static final int BREWER = 4;
    private static final int LAWYER = 5;
    private static final int JUDGE = 6;
    private static final int DUKE = 7;

    /** Inside, none of something (an owner, a cell, a thing); outside it is told as NONE_TOLD. */
    private static final int NONE = -1;
    private static final int NONE_TOLD = -9;
    private static final int NONE_IN_LETTERS = 9;

    private static final int NOBODY = -1;
    private static final int OTHER = -2;
    private static final int STATE = -3;
    private static final int BELOW = -4;
    private static final int ROOM = -6;
    private static final int REFUSALS = 6;
    private static final int WITHOUT_SIGN = 0x7fffffff;
    /** Far more than two longs need until their common divisor is found. */
    private static final int MOST_DIVISIONS = 200;
    private static final long LONG_REFUSAL = 4000000000000000000L;

    private static final int FAULT_OF_LETTER = -1000;
    private static final int FAULT_OF_STATEMENT = -2000;

    private final World now = new World();
    private final World kept = new World();
    private boolean imageTaken = false;

    /** What can be taken back: the coast as it was ahead of each change, the latest last. */
    private final World[] earlier = new World[MOST_BACK];
    private int backs = 0;

    private final int[] letters = new int[MOST_LETTERS];
    private int lettersIn = 0;
    private final int[] told = new int[MOST_IN_ROW];
    private int toldIn = 0;
    private final int[] refusals = new int[REFUSALS + 1];

    private final Mind mind = new Mind();
    private final int[] onesGain = new int[4];
    private final int[] othersGain = new int[4];

    public OnlyInFog() {
        for (int i = 0; i < MOST_BACK; i++) {
            earlier[i] = new World();
        }
    }

    // ---- Letters and the coast told in them ----

    public int feed(int letter) {
        if (letter < 0) {
            return refuse(BELOW);
        }
        if (letter > LAST_LETTER || lettersIn >= MOST_LETTERS) {
            return refuse(ROOM);
        }
        letters[lettersIn] = letter;
        lettersIn++;
        return lettersIn;
    }

    public int coast() {
        int length = lettersIn;
        lettersIn = 0;
        int wrong = wrongLetter(length);
        if (wrong != NONE) {
            return FAULT_OF_LETTER - wrong;
        }
        mind.begin(now);
        int statements = 0;
        int place = 0;
        while (place < length) {
            if (!carriedOut(place)) {
                return FAULT_OF_STATEMENT - place;
            }
            statements++;
            place += digitsBehind(letterAt(place)) + 2;
        }
        now.become(mind.world);
        backs = 0;
        return statements;
    }

    /** The place of the first letter with which no coast can go on, the end, or NONE. */
    private int wrongLetter(int length) {
        if (length == 0) {
            return 0;
        }
        int place = 0;
        while (place < length) {
            int digits = digitsBehind(letterAt(place));
            if (digits <= 0) {
                return place;
            }
            for (int i = 1; i <= digits; i++) {
                if (place + i >= length) {
                    return length;
                }
                if (!isDigit(letterAt(place + i))) {
                    return place + i;
                }
            }
            int end = place + digits + 1;
            if (end >= length) {
                return length;
            }
            if (letterAt(end) != ';') {
                return end;
            }
            place = end + 1;
        }
        return NONE;
    }

    private int letterAt(int place) {
        return place >= 0 && place < MOST_LETTERS ? letters[place] : 0;
    }

    private static boolean isDigit(int letter) {
        return letter >= '0' && letter <= '9';
    }

    private int digitAt(int place) {
        return letterAt(place) - '0';
    }

    private int twoDigitsAt(int place) {
        return 10 * digitAt(place) + digitAt(place + 1);
    }

    /** How many digits a statement's letter has behind it; NONE if no statement begins so. */
    private static int digitsBehind(int letter) {
        switch (letter) {
            case 'f':
                return 3;
            case 'p':
                return 4;
            case 't':
                return 3;
            case 'k':
                return 1;
            case 'o':
                return 2;
            case 'm':
                return 3;
            case 'h':
                return 2;
            default:
                return NONE;
        }
    }

    /** Carries the statement at a place out in mind; false if it is not as it must be. */
    private boolean carriedOut(int place) {
        World world = mind.world;
        int digit = digitAt(place + 1);
        switch (letterAt(place)) {
            case 'f':
                return digit < SORTS && world.addFront(digit, digitAt(place + 2), digitAt(place + 3));
            case 'p':
                return digit < KINDS && world.addPerson(digit, digitAt(place + 2), twoDigitsAt(place + 3));
            case 't':
                return world.addThing(digit, twoDigitsAt(place + 2));
            case 'k':
                world.thick = digit;
                return digit >= 1;
            case 'o':
                int owner = digitAt(place + 2);
                return world.setOwner(digit, owner == NONE_IN_LETTERS ? NONE : owner);
            case 'm':
                return world.setPlace(digit, twoDigitsAt(place + 2));
            case 'h':
                int n = twoDigitsAt(place + 1);
                if (n < 1 || n > FAR_HOURS || world.hour + n > LAST_HOUR) {
                    return false;
                }
                mind.goOn(n);
                return true;
            default:
                return false;
        }
    }

    // ---- What is there ----

    public int person(int person, int what) {
        if (!now.hasPerson(person)) {
            return refuse(NOBODY);
        }
        switch (what) {
            case 0:
                return now.kind[person];
            case 1:
                return now.figure[person];
            case 2:
                return now.home[person];
            case 3:
                return now.place[person];
            case 4:
                return People.pace(now.kind[person], now.figure[person]);
            case 5:
                return People.grabs(now.kind[person], now.figure[person]);
            case 6:
                return People.steam(now.kind[person], now.figure[person]);
            case 7:
                mind.begin(now);
                mind.world.hour++;
                mind.look();
                return mind.goal(person);
            case 8:
                return now.worthsOf(person);
            default:
                return refuse(OTHER);
        }
    }

    public int thing(int thing, int what) {
        if (!now.hasThing(thing)) {
            return refuse(NOBODY);
        }
        switch (what) {
            case 0:
                return now.worth[thing];
            case 1:
                return now.lying[thing];
            case 2:
                return orNone(now.owner[thing]);
            default:
                return refuse(OTHER);
        }
    }

    public int front(int front, int what) {
        if (!now.hasFront(front)) {
            return refuse(NOBODY);
        }
        switch (what) {
            case 0:
                return now.sort[front];
            case 1:
                return now.a[front];
            case 2:
                return now.b[front];
            default:
                return refuse(OTHER);
        }
    }

    public int cell(int cell, int what) {
        if (!isCell(cell)) {
            return refuse(NOBODY);
        }
        if (what < 0 || what > 4) {
            return refuse(OTHER);
        }
        mind.begin(now);
        switch (what) {
            case 0:
                return mind.airOn(cell);
            case 1:
                return mind.fogOn(cell);
            case 2:
                return mind.isInFog(cell) ? 1 : 0;
            case 3:
                return now.peopleOn(cell);
            default:
                return now.thingsOn(cell);
        }
    }

    public int count(int what) {
        switch (what) {
            case 0:
                return now.people;
            case 1:
                return now.things;
            case 2:
                return now.fronts;
            case 3:
                return now.hour;
            case 4:
                return now.thick;
            case 5:
                return now.ownedThings();
            case 6:
                return lettersIn;
            case 7:
                return toldIn;
            case 8:
                return backs;
            case 9:
                mind.begin(now);
                return mind.foggyCells();
            default:
                return what > 10 && what <= 10 + REFUSALS ? refusals[what - 10] : NONE_TOLD;
        }
    }

    // ---- What comes ----

    public int blows(int sort, int a, int b) {
        if (sort < 0 || sort >= SORTS) {
            return refuse(OTHER);
        }
        if (a < 0 || b < 0) {
            return refuse(BELOW);
        }
        if (!now.addFront(sort, a, b)) {
            return refuse(ROOM);
        }
        backs = 0;
        return now.fronts - 1;
    }

    public int comes(int kind, int figure, int home) {
        if (kind < 0 || kind >= KINDS) {
            return refuse(OTHER);
        }
        if (figure < 0) {
            return refuse(BELOW);
        }
        if (figure > LAST_DIGIT || now.people >= MOST_PEOPLE) {
            return refuse(ROOM);
        }
        if (!now.addPerson(kind, figure, home)) {
            return refuse(NOBODY);
        }
        backs = 0;
        return now.people - 1;
    }

    public int lies(int worth, int cell) {
        if (worth < 0) {
            return refuse(BELOW);
        }
        if (worth > LAST_DIGIT || now.things >= MOST_THINGS) {
            return refuse(ROOM);
        }
        if (!now.addThing(worth, cell)) {
            return refuse(NOBODY);
        }
        backs = 0;
        return now.things - 1;
    }

    // ---- What changes and can be taken back ----

    public int thick(int v) {
        int refusal = outOfRange(v, 1, MOST_THICK);
        if (refusal != 0) {
            return refuse(refusal);
        }
        keepForBack();
        int old = now.thick;
        now.thick = v;
        return old;
    }

    public int owns(int thing, int person) {
        if (!now.hasThing(thing) || (person != NONE && !now.hasPerson(person))) {
            return refuse(NOBODY);
        }
        keepForBack();
        int old = now.owner[thing];
        now.owner[thing] = person;
        return orNone(old);
    }

    public int stands(int person, int cell) {
        if (!now.hasPerson(person) || !isCell(cell)) {
            return refuse(NOBODY);
        }
        keepForBack();
        int old = now.place[person];
        now.place[person] = cell;
        return old;
    }

    public int carries(int thing, int cell) {
        if (!now.hasThing(thing) || !isCell(cell)) {
            return refuse(NOBODY);
        }
        keepForBack();
        int old = now.lying[thing];
        now.lying[thing] = cell;
        return old;
    }

    public int hours(int n) {
        int refusal = outOfRange(n, 1, FAR_HOURS);
        if (refusal != 0) {
            return refuse(refusal);
        }
        if (now.hour + n > LAST_HOUR) {
            return refuse(ROOM);
        }
        keepForBack();
        thinkOn(n);
        now.become(mind.world);
        return now.ownedThings();
    }

    public int back() {
        if (backs <= 0 || backs > MOST_BACK) {
            return refuse(STATE);
        }
        backs--;
        now.become(earlier[backs]);
        return backs;
    }

    private void keepForBack() {
        if (backs >= MOST_BACK) {
            World oldest = earlier[0];
            for (int i = 1; i < MOST_BACK; i++) {
                earlier[i - 1] = earlier[i];
            }
            earlier[MOST_BACK - 1] = oldest;
            backs = MOST_BACK - 1;
        }
        earlier[backs].become(now);
        backs++;
    }

    // ---- What will be ----

    public int fogThen(int cell, int n) {
        if (!isCell(cell)) {
            return refuse(NOBODY);
        }
        int refusal = outOfRange(n, 0, FAR_HOURS);
        if (refusal != 0) {
            return refuse(refusal);
        }
        thinkOn(n);
        return mind.fogOn(cell);
    }

    public int then(int n, int what) {
        int refusal = outOfRange(n, 0, FAR_HOURS);
        if (refusal != 0) {
            return refuse(refusal);
        }
        if (what < 0 || what > 2) {
            return refuse(OTHER);
        }
        thinkOn(n);
        switch (what) {
            case 0:
                return mind.foggyCells();
            case 1:
                return mind.world.ownedThings();
            default:
                return mind.world.nobodysThings();
        }
    }

    public int ownerThen(int thing, int n) {
        if (!now.hasThing(thing)) {
            return refuse(NOBODY);
        }
        int refusal = outOfRange(n, 0, FAR_HOURS);
        if (refusal != 0) {
            return refuse(refusal);
        }
        thinkOn(n);
        return orNone(mind.world.owner[thing]);
    }

    public int personThen(int person, int n, int what) {
        if (!now.hasPerson(person)) {
            return refuse(NOBODY);
        }
        int refusal = outOfRange(n, 0, FAR_HOURS);
        if (refusal != 0) {
            return refuse(refusal);
        }
        if (what != 0 && what != 1) {
            return refuse(OTHER);
        }
        thinkOn(n);
        return what == 0 ? mind.world.place[person] : mind.world.worthsOf(person);
    }

    public int when(int person, int thing) {
        if (!now.hasPerson(person) || !now.hasThing(thing)) {
            return refuse(NOBODY);
        }
        mind.begin(now);
        for (int n = 0; n <= FAR_HOURS; n++) {
            if (mind.world.owner[thing] == person) {
                return n;
            }
            mind.goOn(1);
        }
        return NONE_TOLD;
    }

    public int first() {
        int nobodysNow = now.nobodysThings();
        mind.begin(now);
        for (int n = 0; n < FAR_HOURS; n++) {
            mind.goOn(1);
            int taken = nobodysNow & ~mind.world.nobodysThings();
            if (taken != 0) {
                return leastThing(taken);
            }
        }
        return NONE_TOLD;
    }

    public int clears(int cell) {
        if (!isCell(cell)) {
            return refuse(NOBODY);
        }
        mind.begin(now);
        for (int n = 0; n <= FAR_HOURS; n++) {
            if (!mind.isInFog(cell)) {
                return n;
            }
            mind.goOn(1);
        }
        return NONE_TOLD;
    }

    // ---- What had best be otherwise ----

    public int stand(int person, int n, int what) {
        if (!now.hasPerson(person)) {
            return refuse(NOBODY);
        }
        int refusal = outOfRange(n, 0, NEAR_HOURS);
        if (refusal != 0) {
            return refuse(refusal);
        }
        if (what != 0 && what != 1) {
            return refuse(OTHER);
        }
        int best = NONE;
        int most = NONE;
        for (int cell = 0; cell < CELLS; cell++) {
            mind.begin(now);
            mind.world.place[person] = cell;
            mind.goOn(n);
            int worths = mind.world.worthsOf(person);
            if (worths > most) {
                most = worths;
                best = cell;
            }
        }
        return what == 0 ? best : most;
    }

    public int kettle(int person, int thing, int n) {
        if (!now.hasPerson(person) || !now.hasThing(thing)) {
            return refuse(NOBODY);
        }
        int refusal = outOfRange(n, 0, NEAR_HOURS);
        if (refusal != 0) {
            return refuse(refusal);
        }
        for (int cell = 0; cell < CELLS; cell++) {
            mind.begin(now);
            mind.kettleOn = cell;
            mind.goOn(n);
            if (mind.world.owner[thing] == person) {
                return cell;
            }
        }
        return NONE_TOLD;
    }

    public int without(int n, int what) {
        int refusal = outOfRange(n, 0, FAR_HOURS);
        if (refusal != 0) {
            return refuse(refusal);
        }
        if (what != 0 && what != 1) {
            return refuse(OTHER);
        }
        int best = NONE_TOLD;
        int fewest = NONE_TOLD;
        for (int front = 0; front < now.fronts; front++) {
            mind.begin(now);
            mind.world.dropFront(front);
            mind.goOn(n);
            int foggy = Integer.bitCount(mind.foggyCells());
            if (front == 0 || foggy < fewest) {
                fewest = foggy;
                best = front;
            }
        }
        return what == 0 ? best : fewest;
    }

    public int swap(int n) {
        int refusal = outOfRange(n, 0, NEAR_HOURS);
        if (refusal != 0) {
            return refuse(refusal);
        }
        thinkOn(n);
        int best = NONE_TOLD;
        int most = mind.world.ownedThings();
        for (int one = 0; one < now.people; one++) {
            for (int other = one + 1; other < now.people; other++) {
                mind.begin(now);
                mind.world.change(one, other);
                mind.goOn(n);
                int owned = mind.world.ownedThings();
                if (owned > most) {
                    most = owned;
                    best = 10 * one + other;
                }
            }
        }
        return best;
    }

    public int whatKind(int person, int what) {
        if (!now.hasPerson(person)) {
            return refuse(NOBODY);
        }
        if (what != 0 && what != 1) {
            return refuse(OTHER);
        }
        int candidates = what == 0 ? KINDS : LAST_DIGIT + 1;
        int left = 0;
        for (int candidate = 0; candidate < candidates; candidate++) {
            mind.begin(now);
            if (what == 0) {
                mind.world.kind[person] = candidate;
            } else {
                mind.world.figure[person] = candidate;
            }
            if (goesByTheRow(person)) {
                left |= 1 << candidate;
            }
        }
        return left;
    }

    private boolean goesByTheRow(int person) {
        for (int i = 0; i < toldIn; i++) {
            if (i > 0) {
                mind.goOn(1);
            }
            if (mind.world.place[person] != told[i]) {
                return false;
            }
        }
        return true;
    }

    public int whichFront(int front, int cell) {
        if (!now.hasFront(front) || !isCell(cell)) {
            return refuse(NOBODY);
        }
        int left = 0;
        for (int sort = 0; sort < SORTS; sort++) {
            mind.begin(now);
            mind.world.sort[front] = sort;
            if (airIsAsTheRow(cell)) {
                left |= 1 << sort;
            }
        }
        return left;
    }

    private boolean airIsAsTheRow(int cell) {
        for (int i = 0; i < toldIn; i++) {
            mind.look();
            if (mind.airOn(cell) != told[i]) {
                return false;
            }
            mind.world.hour++;
        }
        return true;
    }

    public int two(int one, int other, int n) {
        if (!now.hasPerson(one) || !now.hasPerson(other) || one == other) {
            return refuse(NOBODY);
        }
        int refusal = outOfRange(n, 1, NEAR_HOURS);
        if (refusal != 0) {
            return refuse(refusal);
        }
        for (int choices = 0; choices < 4; choices++) {
            mind.begin(now);
            if ((choices & 2) != 0) {
                mind.world.goHome(one);
            }
            if ((choices & 1) != 0) {
                mind.world.goHome(other);
            }
            mind.goOn(n);
            int ones = mind.world.worthsOf(one);
            int others = mind.world.worthsOf(other);
            onesGain[choices] = ones - others / 2;
            othersGain[choices] = others - ones / 2;
        }
        for (int choices = 0; choices < 4; choices++) {
            boolean oneIsContent = onesGain[choices] >= onesGain[choices ^ 2];
            boolean otherIsContent = othersGain[choices] >= othersGain[choices ^ 1];
            if (oneIsContent && otherIsContent) {
                return 10 * (choices >> 1) + (choices & 1);
            }
        }
        return NONE_TOLD;
    }

    public long sun(int person, int thing, int n, int t, int part) {
        if (!now.hasPerson(person) || !now.hasThing(thing)) {
            return refuseLong(NOBODY);
        }
        if (n < 0 || t < 2) {
            return refuseLong(BELOW);
        }
        if (n > 7 || t > 20) {
            return refuseLong(ROOM);
        }
        if (part != 0 && part != 1) {
            return refuseLong(OTHER);
        }
        long above = 0;
        for (int sunnyHours = 0; sunnyHours < 1 << n; sunnyHours++) {
            if (isOwnedBehind(person, thing, n, sunnyHours)) {
                above += power(t - 1, n - Integer.bitCount(sunnyHours));
            }
        }
        return lowest(above, power(t, n), part);
    }

    private boolean isOwnedBehind(int person, int thing, int n, int sunnyHours) {
        mind.begin(now);
        for (int i = 0; i < n; i++) {
            mind.sunny = (sunnyHours >> i & 1) != 0;
            mind.goOn(1);
        }
        return mind.world.owner[thing] == person;
    }

    // ---- Cells in fog ----

    public int islands(int cell) {
        if (cell < -2 || cell >= CELLS) {
            return refuse(NOBODY);
        }
        mind.begin(now);
        int foggy = mind.foggyCells();
        if (cell >= 0) {
            return Pieces.pieceWith(cell, foggy);
        }
        return cell == -1 ? Pieces.howMany(foggy) : Pieces.greatest(foggy);
    }

    public int clearRun() {
        mind.begin(now);
        int longest = 0;
        int run = 0;
        for (int n = 0; n < FAR_HOURS; n++) {
            mind.goOn(1);
            run = mind.foggyCells() == 0 ? run + 1 : 0;
            longest = Math.max(longest, run);
        }
        return longest;
    }

    public int way(int cell, int other) {
        if (!isCell(cell) || !isCell(other)) {
            return refuse(NOBODY);
        }
        mind.begin(now);
        return Pieces.steps(cell, other, mind.foggyCells());
    }

    // ---- Who has how much ----

    public long share(int person, int part) {
        if (!now.hasPerson(person)) {
            return refuseLong(NOBODY);
        }
        if (part != 0 && part != 1) {
            return refuseLong(OTHER);
        }
        int all = 0;
        for (int thing = 0; thing < now.things; thing++) {
            all += now.worth[thing];
        }
        return lowest(now.worthsOf(person), all, part);
    }

    public int sight(int what) {
        switch (what) {
            case 0:
                return richest();
            case 1:
                return now.nobodysThings();
            case 2:
                return wetThings();
            case 3:
                return crowdedCell();
            case 4:
                return hoursAlike();
            default:
                return refuse(OTHER);
        }
    }

    private int richest() {
        int best = NONE_TOLD;
        int most = NONE;
        for (int person = 0; person < now.people; person++) {
            int worths = now.worthsOf(person);
            if (worths > most) {
                most = worths;
                best = person;
            }
        }
        return best;
    }

    private int wetThings() {
        mind.begin(now);
        int wet = 0;
        for (int thing = 0; thing < now.things; thing++) {
            if (mind.isInFog(now.lying[thing])) {
                wet |= 1 << thing;
            }
        }
        return wet;
    }

    private int crowdedCell() {
        int best = NONE_TOLD;
        int most = 0;
        for (int cell = 0; cell < CELLS; cell++) {
            int people = Integer.bitCount(now.peopleOn(cell));
            if (people > most) {
                most = people;
                best = cell;
            }
        }
        return best;
    }

    private int hoursAlike() {
        mind.begin(now);
        int foggyNow = Integer.bitCount(mind.foggyCells());
        int alike = 0;
        for (int n = 0; n < FAR_HOURS; n++) {
            mind.goOn(1);
            if (Integer.bitCount(mind.foggyCells()) == foggyNow) {
                alike++;
            }
        }
        return alike;
    }

    public int kinds(int kind) {
        if (kind < 0 || kind >= KINDS) {
            return refuse(OTHER);
        }
        int found = 0;
        for (int person = 0; person < now.people; person++) {
            if (now.kind[person] == kind) {
                found++;
            }
        }
        return found;
    }

    // ---- The row ----

    public int row(int v) {
        int refusal = outOfRange(v, 0, 99);
        if (refusal != 0) {
            return refuse(refusal);
        }
        if (toldIn >= MOST_IN_ROW) {
            return refuse(ROOM);
        }
        told[toldIn] = v;
        toldIn++;
        return toldIn;
    }

    public int judge() {
        int judged = toldIn;
        toldIn = 0;
        for (int i = 0; i < judged; i++) {
            if (i >= now.things) {
                return i;
            }
            int owner = now.owner[i] == NONE ? NONE_IN_LETTERS : now.owner[i];
            if (told[i] != owner) {
                return i;
            }
        }
        return NONE_TOLD;
    }

    public int clear() {
        int had = toldIn;
        toldIn = 0;
        return had;
    }

    // ---- Days by lot ----

    public int lots(int n, int z, int what) {
        int refusal = outOfRange(n, 1, 20);
        if (refusal != 0) {
            return refuse(refusal);
        }
        if (what != 0 && what != 1) {
            return refuse(OTHER);
        }
        int seed = z;
        int together = 0;
        for (int day = 0; day < n; day++) {
            mind.begin(now);
            World world = mind.world;
            for (int thing = 0; thing < world.things; thing++) {
                seed = seed * 1103515245 + 12345;
                world.lying[thing] = ((seed & WITHOUT_SIGN) >> 16) % CELLS;
                world.owner[thing] = NONE;
            }
            mind.goOn(10);
            together += what == 0 ? world.ownedThings() : world.ownedWorths();
        }
        return together;
    }

    // ---- The image ----

    public int image() {
        kept.become(now);
        imageTaken = true;
        return now.hour;
    }

    public int restore() {
        if (!imageTaken) {
            return refuse(STATE);
        }
        now.become(kept);
        backs = 0;
        return now.hour;
    }

    // ---- Helpers of many calls ----

    private int refuse(int number) {
        int place = -number;
        if (place >= 0 && place <= REFUSALS) {
            refusals[place]++;
        }
        return number;
    }

    private long refuseLong(int number) {
        return LONG_REFUSAL - refuse(number);
    }

    /** The refusal of a number outside a range, or 0. */
    private static int outOfRange(int n, int least, int most) {
        if (n < least) {
            return BELOW;
        }
        return n > most ? ROOM : 0;
    }

    private static boolean isCell(int cell) {
        return cell >= 0 && cell < CELLS;
    }

    private static int orNone(int numberOrNone) {
        return numberOrNone == NONE ? NONE_TOLD : numberOrNone;
    }

    private static int leastThing(int bits) {
        for (int number = 0; number < MOST_THINGS; number++) {
            if ((bits & 1 << number) != 0) {
                return number;
            }
        }
        return NONE_TOLD;
    }

    private static long power(long base, int exponent) {
        long product = 1;
        for (int i = 0; i < exponent; i++) {
            product *= base;
        }
        return product;
    }

    /** What is above (part 0) or below (part 1) the line of a fraction in lowest terms. */
    private static long lowest(long above, long below, int part) {
        if (above == 0 || below == 0) {
            return part == 0 ? 0 : 1;
        }
        long divisor = below;
        long rest = above % below;
        for (int i = 0; i < MOST_DIVISIONS && rest != 0; i++) {
            long next = divisor % rest;
            divisor = rest;
            rest = next;
        }
        return part == 0 ? above / divisor : below / divisor;
    }

    private void thinkOn(int n) {
        mind.begin(now);
        mind.goOn(n);
    }

    /** All that there is of terms I but letters, row and image: it is copied, never shared. */
    private static final class World {
        final int[] sort = new int[MOST_FRONTS];
        final int[] a = new int[MOST_FRONTS];
        final int[] b = new int[MOST_FRONTS];
        int fronts = 0;
        final int[] worth = new int[MOST_THINGS];
        final int[] lying = new int[MOST_THINGS];
        final int[] owner = new int[MOST_THINGS];
        int things = 0;
        final int[] kind = new int[MOST_PEOPLE];
        final int[] figure = new int[MOST_PEOPLE];
        final int[] home = new int[MOST_PEOPLE];
        final int[] place = new int[MOST_PEOPLE];
        int people = 0;
        int hour = 0;
        int thick = FIRST_THICK;

        void become(World other) {
            System.arraycopy(other.sort, 0, sort, 0, MOST_FRONTS);
            System.arraycopy(other.a, 0, a, 0, MOST_FRONTS);
            System.arraycopy(other.b, 0, b, 0, MOST_FRONTS);
            fronts = other.fronts;
            System.arraycopy(other.worth, 0, worth, 0, MOST_THINGS);
            System.arraycopy(other.lying, 0, lying, 0, MOST_THINGS);
            System.arraycopy(other.owner, 0, owner, 0, MOST_THINGS);
            things = other.things;
            System.arraycopy(other.kind, 0, kind, 0, MOST_PEOPLE);
            System.arraycopy(other.figure, 0, figure, 0, MOST_PEOPLE);
            System.arraycopy(other.home, 0, home, 0, MOST_PEOPLE);
            System.arraycopy(other.place, 0, place, 0, MOST_PEOPLE);
            people = other.people;
            hour = other.hour;
            thick = other.thick;
        }

        boolean hasFront(int number) {
            return number >= 0 && number < fronts;
        }

        boolean hasThing(int number) {
            return number >= 0 && number < things;
        }

        boolean hasPerson(int number) {
            return number >= 0 && number < people;
        }

        boolean addFront(int newSort, int newA, int newB) {
            if (newA > LAST_DIGIT || newB > LAST_DIGIT || fronts >= MOST_FRONTS) {
                return false;
            }
            sort[fronts] = newSort;
            a[fronts] = newA;
            b[fronts] = newB;
            fronts++;
            return true;
        }

        boolean addPerson(int newKind, int newFigure, int newHome) {
            if (!isCell(newHome) || people >= MOST_PEOPLE) {
                return false;
            }
            kind[people] = newKind;
            figure[people] = newFigure;
            home[people] = newHome;
            place[people] = newHome;
            people++;
            return true;
        }

        boolean addThing(int newWorth, int cell) {
            if (!isCell(cell) || things >= MOST_THINGS) {
                return false;
            }
            worth[things] = newWorth;
            lying[things] = cell;
            owner[things] = NONE;
            things++;
            return true;
        }

        boolean setOwner(int thing, int personOrNone) {
            if (!hasThing(thing) || (personOrNone != NONE && !hasPerson(personOrNone))) {
                return false;
            }
            owner[thing] = personOrNone;
            return true;
        }

        boolean setPlace(int person, int cell) {
            if (!hasPerson(person) || !isCell(cell)) {
                return false;
            }
            place[person] = cell;
            return true;
        }

        void goHome(int person) {
            if (hasPerson(person)) {
                place[person] = home[person];
            }
        }

        /** The fronts behind it move up by one. */
        void dropFront(int front) {
            if (!hasFront(front)) {
                return;
            }
            for (int i = front + 1; i < fronts; i++) {
                sort[i - 1] = sort[i];
                a[i - 1] = a[i];
                b[i - 1] = b[i];
            }
            fronts--;
        }

        /** The two have each other's kind and figure then. */
        void change(int one, int other) {
            if (!hasPerson(one) || !hasPerson(other)) {
                return;
            }
            int onesKind = kind[one];
            int onesFigure = figure[one];
            kind[one] = kind[other];
            figure[one] = figure[other];
            kind[other] = onesKind;
            figure[other] = onesFigure;
        }

        int worthsOf(int person) {
            int worths = 0;
            for (int thing = 0; thing < things; thing++) {
                if (owner[thing] == person) {
                    worths += worth[thing];
                }
            }
            return worths;
        }

        int ownedWorths() {
            int worths = 0;
            for (int thing = 0; thing < things; thing++) {
                if (owner[thing] != NONE) {
                    worths += worth[thing];
                }
            }
            return worths;
        }

        int nobodysThings() {
            int bits = 0;
            for (int thing = 0; thing < things; thing++) {
                if (owner[thing] == NONE) {
                    bits |= 1 << thing;
                }
            }
            return bits;
        }

        int ownedThings() {
            return things - Integer.bitCount(nobodysThings());
        }

        int peopleOn(int cell) {
            int bits = 0;
            for (int person = 0; person < people; person++) {
                if (place[person] == cell) {
                    bits |= 1 << person;
                }
            }
            return bits;
        }

        int thingsOn(int cell) {
            int bits = 0;
            for (int thing = 0; thing < things; thing++) {
                if (lying[thing] == cell) {
                    bits |= 1 << thing;
                }
            }
            return bits;
        }
    }

    /** What the kinds have of themselves; "as a MAN, but .." is reckoned out here. */
    private static final class People {
        private People() {
        }

        static int pace(int kind, int figure) {
            switch (kind) {
                case CHILD:
                case THIEF:
                case BREWER:
                    return 2;
                case WIDOW:
                    return 0;
                case LAWYER:
                    return figure / 3 + 1;
                case JUDGE:
                    return figure / 3;
                case DUKE:
                    return 3;
                default:
                    return 1;
            }
        }

        static int grabs(int kind, int figure) {
            switch (kind) {
                case CHILD:
                    return figure / 2 + 1;
                case THIEF:
                case DUKE:
                    return figure / 2 + 2;
                case BREWER:
                    return 3;
                case LAWYER:
                    return figure;
                case JUDGE:
                    return 0;
                default:
                    return 1;
            }
        }

        static int steam(int kind, int figure) {
            switch (kind) {
                case WIDOW:
                    return 5;
                case BREWER:
                    return figure / 2 + 5;
                case JUDGE:
                    return 3;
                default:
                    return 0;
            }
        }

        static boolean mayTakeAnothers(int kind, int figure, int worth) {
            switch (kind) {
                case THIEF:
                    return worth < figure;
                case DUKE:
                    return worth <= figure;
                default:
                    return false;
            }
        }
    }

    /** The air by cell and hour; it is kept by hour until other fronts are asked for. */
    private static final class Sky {
        private static final int KEPT_HOURS = 64;

        private final int[] sort = new int[MOST_FRONTS];
        private final int[] a = new int[MOST_FRONTS];
        private final int[] b = new int[MOST_FRONTS];
        private int fronts = 0;

        final int[] air = new int[KEPT_HOURS * CELLS];
        private final int[] hourKept = new int[KEPT_HOURS];
        private final int[] askedCell = new int[MOST_FRONTS];
        private final int[] askedHour = new int[MOST_FRONTS];

        Sky() {
            for (int i = 0; i < KEPT_HOURS; i++) {
                hourKept[i] = NONE;
            }
        }

        /** Where in air the cells of an hour begin. */
        int rowOf(World world, int hour) {
            if (!isOf(world)) {
                turnTo(world);
            }
            int slot = hour & KEPT_HOURS - 1;
            int start = slot * CELLS;
            if (hourKept[slot] != hour) {
                for (int cell = 0; cell < CELLS; cell++) {
                    air[start + cell] = airAt(cell, hour);
                }
                hourKept[slot] = hour;
            }
            return start;
        }

        private boolean isOf(World world) {
            if (fronts != world.fronts) {
                return false;
            }
            for (int i = 0; i < fronts; i++) {
                if (sort[i] != world.sort[i] || a[i] != world.a[i] || b[i] != world.b[i]) {
                    return false;
                }
            }
            return true;
        }

        private void turnTo(World world) {
            System.arraycopy(world.sort, 0, sort, 0, MOST_FRONTS);
            System.arraycopy(world.a, 0, a, 0, MOST_FRONTS);
            System.arraycopy(world.b, 0, b, 0, MOST_FRONTS);
            fronts = world.fronts;
            for (int i = 0; i < KEPT_HOURS; i++) {
                hourKept[i] = NONE;
            }
        }

        /** Each front is asked by the one behind it for a cell and hour, maybe others than its own. */
        private int airAt(int cell, int hour) {
            int asked = cell;
            int askedThen = hour;
            for (int i = fronts - 1; i >= 0; i--) {
                askedCell[i] = asked;
                askedHour[i] = askedThen;
                if (sort[i] == MIRROR) {
                    asked = asked + LAST_COLUMN - 2 * (asked % COLUMNS);
                } else if (sort[i] == LATER) {
                    askedThen = Math.max(askedThen - b[i], 0);
                }
            }
            int ahead = 0;
            for (int i = 0; i < fronts; i++) {
                ahead = airOfFront(i, ahead, askedCell[i], askedHour[i]);
            }
            return ahead;
        }

        private int airOfFront(int front, int ahead, int cell, int hour) {
            int thickness = a[front];
            int column = cell % COLUMNS;
            int own = 0;
            switch (sort[front]) {
                case BANK:
                    int tide = b[front] + 2;
                    own = tide > 0 && column <= hour % tide ? thickness : 0;
                    break;
                case RIVER:
                    own = cell / COLUMNS == b[front] % ROWS ? thickness : 0;
                    break;
                case DEW:
                    int pause = b[front] + 1;
                    own = pause > 0 && hour % pause == 0 ? thickness : 0;
                    break;
                case HAAR:
                    int off = column - hour % COLUMNS;
                    own = thickness - (off < 0 ? -off : off);
                    break;
                case LIFT:
                    return ahead > thickness ? ahead - thickness : 0;
                default:
                    break;
            }
            return own > ahead ? own : ahead;
        }
    }

    /** A coast gone on in mind: hours go by here, and what stands then is asked for here. */
    private static final class Mind {
        final World world = new World();
        private final Sky sky = new Sky();
        private int airStart = 0;

        /** A cell with steam of 9 besides, or NONE. */
        int kettleOn = NONE;
        /** Whether the hours to come are without air. */
        boolean sunny = false;

        void begin(World from) {
            world.become(from);
            kettleOn = NONE;
            sunny = false;
            look();
        }

        /** Must be called when the hour or the fronts have changed. */
        void look() {
            airStart = sky.rowOf(world, world.hour);
        }

        int airOn(int cell) {
            return sunny || cell < 0 || cell >= CELLS ? 0 : sky.air[airStart + cell];
        }

        int fogOn(int cell) {
            int fog = cell == kettleOn ? 9 : airOn(cell);
            for (int person = 0; person < world.people; person++) {
                if (world.place[person] == cell) {
                    fog = Math.max(fog, People.steam(world.kind[person], world.figure[person]));
                }
            }
            return fog;
        }

        boolean isInFog(int cell) {
            return fogOn(cell) >= world.thick;
        }

        int foggyCells() {
            int bits = 0;
            for (int cell = 0; cell < CELLS; cell++) {
                if (isInFog(cell)) {
                    bits |= 1 << cell;
                }
            }
            return bits;
        }

        void goOn(int n) {
            look();
            for (int i = 0; i < n; i++) {
                world.hour++;
                look();
                dropInTheClear();
                for (int person = 0; person < world.people; person++) {
                    walk(person, goal(person));
                    if (isInFog(world.place[person])) {
                        grab(person);
                    }
                }
            }
        }

        private void dropInTheClear() {
            for (int thing = 0; thing < world.things; thing++) {
                if (!isInFog(world.lying[thing])) {
                    world.owner[thing] = NONE;
                }
            }
        }

        private void walk(int person, int goal) {
            int pace = People.pace(world.kind[person], world.figure[person]);
            int at = world.place[person];
            for (int i = 0; i < pace && at != goal; i++) {
                int rowsOff = goal / COLUMNS - at / COLUMNS;
                if (rowsOff != 0) {
                    at += rowsOff > 0 ? COLUMNS : -COLUMNS;
                } else {
                    at += goal > at ? 1 : -1;
                }
            }
            world.place[person] = at;
        }

        private void grab(int person) {
            int kind = world.kind[person];
            int figure = world.figure[person];
            int left = People.grabs(kind, figure);
            for (int thing = 0; thing < world.things && left > 0; thing++) {
                int owner = world.owner[thing];
                if (world.lying[thing] == world.place[person] && owner != person
                        && (owner == NONE || People.mayTakeAnothers(kind, figure, world.worth[thing]))) {
                    world.owner[thing] = person;
                    left--;
                }
            }
        }

        /** The cell that one goes for in the hour that has come. */
        int goal(int person) {
            int kind = world.kind[person];
            if (kind == LAWYER || kind == JUDGE) {
                return airiest();
            }
            boolean likeThief = kind == THIEF || (kind == DUKE && world.hour % 2 == 0);
            int thing = NONE;
            if (likeThief) {
                thing = worthiest(person);
            }
            if (thing == NONE && (likeThief || kind == CHILD)) {
                thing = nearest(person);
            }
            return thing == NONE ? world.home[person] : world.lying[thing];
        }

        private int airiest() {
            int best = 0;
            for (int cell = 1; cell < CELLS; cell++) {
                if (airOn(cell) > airOn(best)) {
                    best = cell;
                }
            }
            return best;
        }

        private int worthiest(int person) {
            int best = NONE;
            for (int thing = 0; thing < world.things; thing++) {
                boolean isHis = world.owner[thing] == person;
                if (!isHis && (best == NONE || world.worth[thing] > world.worth[best])) {
                    best = thing;
                }
            }
            return best;
        }

        private int nearest(int person) {
            int best = NONE;
            int least = 0;
            for (int thing = 0; thing < world.things; thing++) {
                if (world.owner[thing] == NONE) {
                    int distance = distance(world.place[person], world.lying[thing]);
                    if (best == NONE || distance < least) {
                        best = thing;
                        least = distance;
                    }
                }
            }
            return best;
        }

        private static int distance(int cell, int other) {
            return Math.abs(cell / COLUMNS - other / COLUMNS) + Math.abs(cell % COLUMNS - other % COLUMNS);
        }
    }

    /** Pieces of cells, held as bits, that hang together by rows and columns. */
    private static final class Pieces {
        private static final int FIRST_COLUMN_BITS = 1 | 1 << 6 | 1 << 12 | 1 << 18;
        private static final int LAST_COLUMN_BITS = FIRST_COLUMN_BITS << LAST_COLUMN;

        private Pieces() {
        }

        /** The cells themselves and their neighbours, as far as they are among the allowed. */
        private static int spread(int cells, int allowed) {
            int rightwards = (cells & ~LAST_COLUMN_BITS) << 1;
            int leftwards = (cells & ~FIRST_COLUMN_BITS) >> 1;
            return (cells | cells << COLUMNS | cells >> COLUMNS | rightwards | leftwards) & allowed;
        }

        static int pieceWith(int cell, int foggy) {
            int piece = foggy & 1 << cell;
            for (int i = 0; i < CELLS; i++) {
                piece = spread(piece, foggy);
            }
            return piece;
        }

        static int howMany(int foggy) {
            int found = 0;
            int left = foggy;
            for (int cell = 0; cell < CELLS; cell++) {
                if ((left & 1 << cell) != 0) {
                    left &= ~pieceWith(cell, foggy);
                    found++;
                }
            }
            return found;
        }

        static int greatest(int foggy) {
            int most = 0;
            for (int cell = 0; cell < CELLS; cell++) {
                most = Math.max(most, Integer.bitCount(pieceWith(cell, foggy)));
            }
            return most;
        }

        /** The fewest steps from a cell to another by foggy cells, both too, or NONE_TOLD. */
        static int steps(int cell, int other, int foggy) {
            int reached = foggy & 1 << cell;
            for (int taken = 0; taken < CELLS; taken++) {
                if ((reached & 1 << other) != 0) {
                    return taken;
                }
                reached = spread(reached, foggy);
            }
            return NONE_TOLD;
        }
    }
}

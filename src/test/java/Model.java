import java.util.ArrayList;
import java.util.Arrays;
import java.util.LinkedList;
import java.util.List;
import java.util.TreeMap;

/**
 * The document a second time, as plainly as can be and with the whole Java library: the kinds and
 * sorts are classes under one another as the document tells them, every coast in mind is a copy.
 * ModelTest lets it and OnlyInFog answer the same calls.
 */
final class Model {
    static final long LONG = 4000000000000000000L;

    // ---- Fronts ----

    static final class Front {
        int sort;
        int a;
        int b;

        Front(int sort, int a, int b) {
            this.sort = sort;
            this.a = a;
            this.b = b;
        }
    }

    /** AIR of a CELL in an HOUR behind the first `many` fronts. */
    static int air(List<Front> fronts, int many, int row, int column, int h) {
        if (many == 0) {
            return 0;
        }
        Front f = fronts.get(many - 1);
        int ahead = air(fronts, many - 1, row, column, h);
        if (f.sort == 0) {
            int own = column <= h % (f.b + 2) ? f.a : 0;
            return Math.max(ahead, own);
        }
        if (f.sort == 1) {
            int own = row == f.b % 4 ? f.a : 0;
            return Math.max(ahead, own);
        }
        if (f.sort == 2) {
            int own = h % (1 + f.b) == 0 ? f.a : 0;
            return Math.max(ahead, own);
        }
        if (f.sort == 3) {
            int own = f.a - Math.abs(h % 6 - column);
            return Math.max(ahead, Math.max(0, own));
        }
        if (f.sort == 4) {
            return Math.max(0, ahead - f.a);
        }
        if (f.sort == 5) {
            return air(fronts, many - 1, row, 5 - column, h);
        }
        return air(fronts, many - 1, row, column, h - f.b < 0 ? 0 : h - f.b);
    }

    // ---- People, each kind under another ----

    static class Man {
        int pace(int figure) {
            return 1;
        }

        int grabs(int figure) {
            return 1;
        }

        int steam(int figure) {
            return 0;
        }

        int goal(Coast c, int p) {
            return c.people.get(p).home;
        }

        boolean mayTake(Coast c, int p, int thing) {
            return c.things.get(thing).owner == null;
        }
    }

    static class Child extends Man {
        @Override
        int pace(int figure) {
            return super.pace(figure) + 1;
        }

        @Override
        int grabs(int figure) {
            return super.grabs(figure) + figure / 2;
        }

        @Override
        int goal(Coast c, int p) {
            TreeMap<Integer, Integer> byDistance = new TreeMap<>();
            int at = c.people.get(p).cell;
            for (int t = 0; t < c.things.size(); t++) {
                Thing thing = c.things.get(t);
                if (thing.owner == null) {
                    int far = Math.abs(at / 6 - thing.cell / 6) + Math.abs(at % 6 - thing.cell % 6);
                    byDistance.putIfAbsent(far, thing.cell);
                }
            }
            return byDistance.isEmpty() ? super.goal(c, p) : byDistance.firstEntry().getValue();
        }
    }

    static class Thief extends Child {
        @Override
        int grabs(int figure) {
            return super.grabs(figure) + 1;
        }

        @Override
        int goal(Coast c, int p) {
            TreeMap<Integer, Integer> byWorth = new TreeMap<>();
            for (Thing thing : c.things) {
                if (thing.owner == null || thing.owner != p) {
                    byWorth.putIfAbsent(thing.worth, thing.cell);
                }
            }
            return byWorth.isEmpty() ? super.goal(c, p) : byWorth.lastEntry().getValue();
        }

        @Override
        boolean mayTake(Coast c, int p, int thing) {
            return super.mayTake(c, p, thing) || c.things.get(thing).worth < c.people.get(p).figure;
        }
    }

    static class Widow extends Man {
        @Override
        int pace(int figure) {
            return 0;
        }

        @Override
        int steam(int figure) {
            return 5;
        }
    }

    static class Brewer extends Widow {
        @Override
        int pace(int figure) {
            return super.pace(figure) + 2;
        }

        @Override
        int grabs(int figure) {
            return super.grabs(figure) + 2;
        }

        @Override
        int steam(int figure) {
            return super.steam(figure) + figure / 2;
        }
    }

    static class Lawyer extends Man {
        @Override
        int pace(int figure) {
            return super.pace(figure) + figure / 3;
        }

        @Override
        int grabs(int figure) {
            return figure;
        }

        @Override
        int goal(Coast c, int p) {
            int best = 0;
            for (int cell = 23; cell >= 0; cell--) {
                if (c.air(cell) >= c.air(best)) {
                    best = cell;
                }
            }
            return best;
        }
    }

    static class Judge extends Lawyer {
        @Override
        int pace(int figure) {
            return super.pace(figure) - 1;
        }

        @Override
        int grabs(int figure) {
            return 0;
        }

        @Override
        int steam(int figure) {
            return 3;
        }
    }

    static class Duke extends Thief {
        private final Man man = new Man();

        @Override
        int pace(int figure) {
            return super.pace(figure) + 1;
        }

        @Override
        int goal(Coast c, int p) {
            return c.hour % 2 == 0 ? super.goal(c, p) : man.goal(c, p);
        }

        @Override
        boolean mayTake(Coast c, int p, int thing) {
            return super.mayTake(c, p, thing) || c.things.get(thing).worth <= c.people.get(p).figure;
        }
    }

    static final List<Man> KINDS = List.of(new Man(), new Child(), new Thief(), new Widow(),
            new Brewer(), new Lawyer(), new Judge(), new Duke());

    static final class Person {
        int kind;
        int figure;
        int home;
        int cell;

        Person(int kind, int figure, int home, int cell) {
            this.kind = kind;
            this.figure = figure;
            this.home = home;
            this.cell = cell;
        }

        Man man() {
            return KINDS.get(kind);
        }

        int steam() {
            return man().steam(figure);
        }
    }

    static final class Thing {
        int worth;
        int cell;
        Integer owner;

        Thing(int worth, int cell, Integer owner) {
            this.worth = worth;
            this.cell = cell;
            this.owner = owner;
        }
    }

    // ---- A coast ----

    static final class Coast {
        final List<Front> fronts = new ArrayList<>();
        final List<Person> people = new ArrayList<>();
        final List<Thing> things = new ArrayList<>();
        int hour = 0;
        int thick = 3;
        int kettle = -1;
        boolean sunny = false;

        Coast copy() {
            Coast c = new Coast();
            for (Front f : fronts) {
                c.fronts.add(new Front(f.sort, f.a, f.b));
            }
            for (Person p : people) {
                c.people.add(new Person(p.kind, p.figure, p.home, p.cell));
            }
            for (Thing t : things) {
                c.things.add(new Thing(t.worth, t.cell, t.owner));
            }
            c.hour = hour;
            c.thick = thick;
            return c;
        }

        Coast on(int n) {
            Coast c = copy();
            c.go(n);
            return c;
        }

        int air(int cell) {
            return sunny ? 0 : Model.air(fronts, fronts.size(), cell / 6, cell % 6, hour);
        }

        int fog(int cell) {
            int fog = air(cell);
            for (Person p : people) {
                if (p.cell == cell) {
                    fog = Math.max(fog, p.steam());
                }
            }
            return cell == kettle ? Math.max(9, fog) : fog;
        }

        boolean inFog(int cell) {
            return fog(cell) >= thick;
        }

        int foggy() {
            int bits = 0;
            for (int cell = 0; cell < 24; cell++) {
                bits += inFog(cell) ? 1 << cell : 0;
            }
            return bits;
        }

        void go(int n) {
            for (int i = 0; i < n; i++) {
                hour++;
                for (Thing t : things) {
                    if (!inFog(t.cell)) {
                        t.owner = null;
                    }
                }
                for (int p = 0; p < people.size(); p++) {
                    act(p);
                }
            }
        }

        private void act(int p) {
            Person who = people.get(p);
            int goal = who.man().goal(this, p);
            for (int i = 0; i < who.man().pace(who.figure); i++) {
                if (goal / 6 != who.cell / 6) {
                    who.cell += 6 * Integer.signum(goal / 6 - who.cell / 6);
                } else {
                    who.cell += Integer.signum(goal % 6 - who.cell % 6);
                }
            }
            if (!inFog(who.cell)) {
                return;
            }
            List<Thing> grabbed = new ArrayList<>();
            for (int t = 0; t < things.size(); t++) {
                Thing thing = things.get(t);
                boolean his = thing.owner != null && thing.owner == p;
                if (thing.cell == who.cell && !his && who.man().mayTake(this, p, t)
                        && grabbed.size() < who.man().grabs(who.figure)) {
                    grabbed.add(thing);
                }
            }
            for (Thing thing : grabbed) {
                thing.owner = p;
            }
        }

        int worths(int p) {
            return things.stream().filter(t -> t.owner != null && t.owner == p).mapToInt(t -> t.worth).sum();
        }

        int owned() {
            return (int) things.stream().filter(t -> t.owner != null).count();
        }

        int nobodys() {
            int bits = 0;
            for (int t = 0; t < things.size(); t++) {
                bits += things.get(t).owner == null ? 1 << t : 0;
            }
            return bits;
        }

        int owner(int t) {
            return things.get(t).owner == null ? -9 : things.get(t).owner;
        }
    }

    // ---- The object ----

    Coast now = new Coast();
    private Coast image = null;
    private final LinkedList<Coast> past = new LinkedList<>();
    private final StringBuilder letters = new StringBuilder();
    private final List<Integer> row = new ArrayList<>();
    private final int[] refusals = new int[7];

    private int no(int number) {
        refusals[-number]++;
        return number;
    }

    private boolean noPerson(int p) {
        return p < 0 || p >= now.people.size();
    }

    private boolean noThing(int t) {
        return t < 0 || t >= now.things.size();
    }

    private boolean noFront(int f) {
        return f < 0 || f >= now.fronts.size();
    }

    private static boolean noCell(int c) {
        return c < 0 || c > 23;
    }

    private void remember() {
        past.addLast(now.copy());
        if (past.size() > 8) {
            past.removeFirst();
        }
    }

    public int feed(int letter) {
        if (letter < 0) {
            return no(-4);
        }
        if (letter > 255 || letters.length() == 96) {
            return no(-6);
        }
        letters.append((char) letter);
        return letters.length();
    }

    public int coast() {
        String text = letters.toString();
        letters.setLength(0);
        String statement = "(f\\d\\d\\d|p\\d\\d\\d\\d|t\\d\\d\\d|k\\d|o\\d\\d|m\\d\\d\\d|h\\d\\d);";
        if (!text.matches("(" + statement + ")+")) {
            return -1000 - longestGoodStart(text, statement);
        }
        Coast c = now.copy();
        String[] all = text.split(";");
        int place = 0;
        for (String s : all) {
            if (!comesTrue(c, s)) {
                return -2000 - place;
            }
            place += s.length() + 1;
        }
        now = c;
        past.clear();
        return all.length;
    }

    /** The longest start of the text that some coast has too. */
    private static int longestGoodStart(String text, String statement) {
        List<String> rests = List.of("", "0;", "00;", "000;", "0000;", ";", "k0;");
        for (int n = text.length(); n > 0; n--) {
            for (String rest : rests) {
                if ((text.substring(0, n) + rest).matches("(" + statement + ")+")) {
                    return n;
                }
            }
        }
        return 0;
    }

    private static boolean comesTrue(Coast c, String s) {
        int number = Integer.parseInt(s.substring(1));
        switch (s.charAt(0)) {
            case 'f': {
                boolean good = number < 700 && c.fronts.size() < 6;
                c.fronts.add(new Front(number / 100, number / 10 % 10, number % 10));
                return good;
            }
            case 'p': {
                int home = number % 100;
                boolean good = number < 8000 && home < 24 && c.people.size() < 5;
                c.people.add(new Person(number / 1000, number / 100 % 10, home, home));
                return good;
            }
            case 't': {
                boolean good = number % 100 < 24 && c.things.size() < 8;
                c.things.add(new Thing(number / 100, number % 100, null));
                return good;
            }
            case 'k':
                c.thick = number;
                return number > 0;
            case 'o': {
                int thing = number / 10;
                int person = number % 10;
                if (thing >= c.things.size() || (person != 9 && person >= c.people.size())) {
                    return false;
                }
                c.things.get(thing).owner = person == 9 ? null : Integer.valueOf(person);
                return true;
            }
            case 'm': {
                int person = number / 100;
                int cell = number % 100;
                if (person >= c.people.size() || cell > 23) {
                    return false;
                }
                c.people.get(person).cell = cell;
                return true;
            }
            default:
                if (number < 1 || number > 60 || c.hour + number > 999) {
                    return false;
                }
                c.go(number);
                return true;
        }
    }

    public int person(int person, int what) {
        if (noPerson(person)) {
            return no(-1);
        }
        Person p = now.people.get(person);
        if (what == 0) {
            return p.kind;
        }
        if (what == 1) {
            return p.figure;
        }
        if (what == 2) {
            return p.home;
        }
        if (what == 3) {
            return p.cell;
        }
        if (what == 4) {
            return p.man().pace(p.figure);
        }
        if (what == 5) {
            return p.man().grabs(p.figure);
        }
        if (what == 6) {
            return p.steam();
        }
        if (what == 7) {
            Coast c = now.copy();
            c.hour++;
            return p.man().goal(c, person);
        }
        return what == 8 ? now.worths(person) : no(-2);
    }

    public int thing(int thing, int what) {
        if (noThing(thing)) {
            return no(-1);
        }
        Thing t = now.things.get(thing);
        return what == 0 ? t.worth : what == 1 ? t.cell : what == 2 ? now.owner(thing) : no(-2);
    }

    public int front(int front, int what) {
        if (noFront(front)) {
            return no(-1);
        }
        Front f = now.fronts.get(front);
        return what == 0 ? f.sort : what == 1 ? f.a : what == 2 ? f.b : no(-2);
    }

    public int cell(int cell, int what) {
        if (noCell(cell)) {
            return no(-1);
        }
        if (what == 0) {
            return now.air(cell);
        }
        if (what == 1) {
            return now.fog(cell);
        }
        if (what == 2) {
            return now.inFog(cell) ? 1 : 0;
        }
        int bits = 0;
        if (what == 3) {
            for (int p = 0; p < now.people.size(); p++) {
                bits += now.people.get(p).cell == cell ? 1 << p : 0;
            }
            return bits;
        }
        if (what == 4) {
            for (int t = 0; t < now.things.size(); t++) {
                bits += now.things.get(t).cell == cell ? 1 << t : 0;
            }
            return bits;
        }
        return no(-2);
    }

    public int blows(int sort, int a, int b) {
        if (sort < 0 || sort > 6) {
            return no(-2);
        }
        if (a < 0 || b < 0) {
            return no(-4);
        }
        if (a > 9 || b > 9 || now.fronts.size() == 6) {
            return no(-6);
        }
        now.fronts.add(new Front(sort, a, b));
        past.clear();
        return now.fronts.size() - 1;
    }

    public int comes(int kind, int figure, int home) {
        if (kind < 0 || kind > 7) {
            return no(-2);
        }
        if (figure < 0) {
            return no(-4);
        }
        if (figure > 9 || now.people.size() == 5) {
            return no(-6);
        }
        if (noCell(home)) {
            return no(-1);
        }
        now.people.add(new Person(kind, figure, home, home));
        past.clear();
        return now.people.size() - 1;
    }

    public int lies(int worth, int cell) {
        if (worth < 0) {
            return no(-4);
        }
        if (worth > 9 || now.things.size() == 8) {
            return no(-6);
        }
        if (noCell(cell)) {
            return no(-1);
        }
        now.things.add(new Thing(worth, cell, null));
        past.clear();
        return now.things.size() - 1;
    }

    public int thick(int v) {
        if (v < 1) {
            return no(-4);
        }
        if (v > 9) {
            return no(-6);
        }
        remember();
        int old = now.thick;
        now.thick = v;
        return old;
    }

    public int owns(int thing, int person) {
        if (noThing(thing) || (person != -1 && noPerson(person))) {
            return no(-1);
        }
        remember();
        int old = now.owner(thing);
        now.things.get(thing).owner = person == -1 ? null : Integer.valueOf(person);
        return old;
    }

    public int stands(int person, int cell) {
        if (noPerson(person) || noCell(cell)) {
            return no(-1);
        }
        remember();
        int old = now.people.get(person).cell;
        now.people.get(person).cell = cell;
        return old;
    }

    public int carries(int thing, int cell) {
        if (noThing(thing) || noCell(cell)) {
            return no(-1);
        }
        remember();
        int old = now.things.get(thing).cell;
        now.things.get(thing).cell = cell;
        return old;
    }

    public int hours(int n) {
        if (n < 1) {
            return no(-4);
        }
        if (n > 60 || now.hour + n > 999) {
            return no(-6);
        }
        remember();
        now.go(n);
        return now.owned();
    }

    public int back() {
        if (past.isEmpty()) {
            return no(-3);
        }
        now = past.removeLast();
        return past.size();
    }

    /** The refusal of a number of hours, or 0. */
    private int range(int n, int least, int most) {
        return n < least ? no(-4) : n > most ? no(-6) : 0;
    }

    public int fogThen(int cell, int n) {
        if (noCell(cell)) {
            return no(-1);
        }
        int r = range(n, 0, 60);
        return r != 0 ? r : now.on(n).fog(cell);
    }

    public int then(int n, int what) {
        int r = range(n, 0, 60);
        if (r != 0) {
            return r;
        }
        Coast c = now.on(n);
        return what == 0 ? c.foggy() : what == 1 ? c.owned() : what == 2 ? c.nobodys() : no(-2);
    }

    public int ownerThen(int thing, int n) {
        if (noThing(thing)) {
            return no(-1);
        }
        int r = range(n, 0, 60);
        return r != 0 ? r : now.on(n).owner(thing);
    }

    public int personThen(int person, int n, int what) {
        if (noPerson(person)) {
            return no(-1);
        }
        int r = range(n, 0, 60);
        if (r != 0) {
            return r;
        }
        Coast c = now.on(n);
        return what == 0 ? c.people.get(person).cell : what == 1 ? c.worths(person) : no(-2);
    }

    public int when(int person, int thing) {
        if (noPerson(person) || noThing(thing)) {
            return no(-1);
        }
        Coast c = now.copy();
        for (int n = 0; n < 61; n++, c.go(1)) {
            if (c.owner(thing) == person) {
                return n;
            }
        }
        return -9;
    }

    public int first() {
        int best = -9;
        int soonest = 61;
        for (int t = 0; t < now.things.size(); t++) {
            if (now.owner(t) != -9) {
                continue;
            }
            Coast c = now.copy();
            for (int n = 0; n <= 60; n++, c.go(1)) {
                if (c.owner(t) != -9 && n < soonest) {
                    soonest = n;
                    best = t;
                }
            }
        }
        return best;
    }

    public int clears(int cell) {
        if (noCell(cell)) {
            return no(-1);
        }
        Coast c = now.copy();
        for (int n = 0; n < 61; n++, c.go(1)) {
            if (!c.inFog(cell)) {
                return n;
            }
        }
        return -9;
    }

    public int stand(int person, int n, int what) {
        if (noPerson(person)) {
            return no(-1);
        }
        int r = range(n, 0, 30);
        if (r != 0) {
            return r;
        }
        if (what < 0 || what > 1) {
            return no(-2);
        }
        int[] worths = new int[24];
        for (int cell = 0; cell < 24; cell++) {
            Coast c = now.copy();
            c.people.get(person).cell = cell;
            c.go(n);
            worths[cell] = c.worths(person);
        }
        int most = Arrays.stream(worths).max().getAsInt();
        int cell = 0;
        while (worths[cell] != most) {
            cell++;
        }
        return what == 0 ? cell : most;
    }

    public int kettle(int person, int thing, int n) {
        if (noPerson(person) || noThing(thing)) {
            return no(-1);
        }
        int r = range(n, 0, 30);
        if (r != 0) {
            return r;
        }
        for (int cell = 0; cell < 24; cell++) {
            Coast c = now.copy();
            c.kettle = cell;
            c.go(n);
            if (c.owner(thing) == person) {
                return cell;
            }
        }
        return -9;
    }

    public int without(int n, int what) {
        int r = range(n, 0, 60);
        if (r != 0) {
            return r;
        }
        if (what < 0 || what > 1) {
            return no(-2);
        }
        int best = -9;
        int fewest = 99;
        for (int f = 0; f < now.fronts.size(); f++) {
            Coast c = now.copy();
            c.fronts.remove(f);
            c.go(n);
            if (Integer.bitCount(c.foggy()) < fewest) {
                fewest = Integer.bitCount(c.foggy());
                best = f;
            }
        }
        return best == -9 ? -9 : what == 0 ? best : fewest;
    }

    public int swap(int n) {
        int r = range(n, 0, 30);
        if (r != 0) {
            return r;
        }
        int most = now.on(n).owned();
        int best = -9;
        for (int i = 0; i < now.people.size(); i++) {
            for (int j = i + 1; j < now.people.size(); j++) {
                Coast c = now.copy();
                Person p = c.people.get(i);
                Person q = c.people.get(j);
                c.people.set(i, new Person(q.kind, q.figure, p.home, p.cell));
                c.people.set(j, new Person(p.kind, p.figure, q.home, q.cell));
                c.go(n);
                if (c.owned() > most) {
                    most = c.owned();
                    best = 10 * i + j;
                }
            }
        }
        return best;
    }

    public int whatKind(int person, int what) {
        if (noPerson(person)) {
            return no(-1);
        }
        if (what < 0 || what > 1) {
            return no(-2);
        }
        int bits = 0;
        for (int i = 0; i < (what == 0 ? 8 : 10); i++) {
            Coast c = now.copy();
            Person p = c.people.get(person);
            p.kind = what == 0 ? i : p.kind;
            p.figure = what == 0 ? p.figure : i;
            boolean so = true;
            for (int k = 0; k < row.size(); k++) {
                so &= c.on(k).people.get(person).cell == row.get(k);
            }
            bits += so ? 1 << i : 0;
        }
        return bits;
    }

    public int whichFront(int front, int cell) {
        if (noFront(front) || noCell(cell)) {
            return no(-1);
        }
        int bits = 0;
        for (int sort = 0; sort < 7; sort++) {
            Coast c = now.copy();
            c.fronts.get(front).sort = sort;
            boolean so = true;
            for (int k = 0; k < row.size(); k++) {
                so &= c.air(cell) == row.get(k);
                c.hour++;
            }
            bits += so ? 1 << sort : 0;
        }
        return bits;
    }

    public int two(int one, int other, int n) {
        if (noPerson(one) || noPerson(other) || one == other) {
            return no(-1);
        }
        int r = range(n, 1, 30);
        if (r != 0) {
            return r;
        }
        int[][] ones = new int[2][2];
        int[][] others = new int[2][2];
        for (int x = 0; x < 2; x++) {
            for (int y = 0; y < 2; y++) {
                Coast c = now.copy();
                Person p = c.people.get(one);
                Person q = c.people.get(other);
                p.cell = x == 1 ? p.home : p.cell;
                q.cell = y == 1 ? q.home : q.cell;
                c.go(n);
                ones[x][y] = c.worths(one) - c.worths(other) / 2;
                others[x][y] = c.worths(other) - c.worths(one) / 2;
            }
        }
        for (int x = 0; x < 2; x++) {
            for (int y = 0; y < 2; y++) {
                if (ones[1 - x][y] <= ones[x][y] && others[x][1 - y] <= others[x][y]) {
                    return 10 * x + y;
                }
            }
        }
        return -9;
    }

    public long sun(int person, int thing, int n, int t, int part) {
        if (noPerson(person) || noThing(thing)) {
            return LONG - no(-1);
        }
        if (n < 0 || t < 2) {
            return LONG - no(-4);
        }
        if (n > 7 || t > 20) {
            return LONG - no(-6);
        }
        if (part < 0 || part > 1) {
            return LONG - no(-2);
        }
        long below = 1;
        for (int i = 0; i < n; i++) {
            below *= t;
        }
        return fraction(chances(now.copy(), person, thing, n, t), below, part);
    }

    private static long chances(Coast c, int person, int thing, int n, int t) {
        if (n == 0) {
            return c.owner(thing) == person ? 1 : 0;
        }
        Coast sunny = c.copy();
        sunny.sunny = true;
        sunny.go(1);
        return chances(sunny, person, thing, n - 1, t) + (t - 1) * chances(c.on(1), person, thing, n - 1, t);
    }

    private static long fraction(long above, long below, int part) {
        if (above == 0) {
            return part;
        }
        long divisor = java.math.BigInteger.valueOf(above).gcd(java.math.BigInteger.valueOf(below)).longValue();
        return (part == 0 ? above : below) / divisor;
    }

    /** The pieces, each as bits. */
    private static List<Integer> pieces(int foggy) {
        List<Integer> found = new ArrayList<>();
        int seen = 0;
        for (int cell = 0; cell < 24; cell++) {
            if ((foggy >> cell & 1) == 1 && (seen >> cell & 1) == 0) {
                int piece = 0;
                int[] far = far(cell, foggy);
                for (int i = 0; i < 24; i++) {
                    piece += far[i] >= 0 ? 1 << i : 0;
                }
                seen |= piece;
                found.add(piece);
            }
        }
        return found;
    }

    /** How far each cell is from one by cells in fog; -9 out of reach. */
    private static int[] far(int cell, int foggy) {
        int[] far = new int[24];
        Arrays.fill(far, -9);
        if ((foggy >> cell & 1) == 0) {
            return far;
        }
        far[cell] = 0;
        LinkedList<Integer> open = new LinkedList<>(List.of(cell));
        while (!open.isEmpty()) {
            int c = open.removeFirst();
            for (int o = 0; o < 24; o++) {
                boolean beside = Math.abs(c / 6 - o / 6) + Math.abs(c % 6 - o % 6) == 1;
                if (beside && (foggy >> o & 1) == 1 && far[o] < 0) {
                    far[o] = far[c] + 1;
                    open.addLast(o);
                }
            }
        }
        return far;
    }

    public int islands(int cell) {
        if (cell < -2 || cell > 23) {
            return no(-1);
        }
        List<Integer> pieces = pieces(now.foggy());
        if (cell == -1) {
            return pieces.size();
        }
        int found = 0;
        for (int piece : pieces) {
            if (cell == -2) {
                found = Math.max(found, Integer.bitCount(piece));
            } else if ((piece >> cell & 1) == 1) {
                found = piece;
            }
        }
        return found;
    }

    public int clearRun() {
        StringBuilder told = new StringBuilder();
        Coast c = now.copy();
        for (int n = 0; n < 60; n++) {
            c.go(1);
            told.append(c.foggy() == 0 ? 'c' : ' ');
        }
        int longest = 0;
        for (String run : told.toString().split(" ")) {
            longest = Math.max(longest, run.length());
        }
        return longest;
    }

    public int way(int cell, int other) {
        if (noCell(cell) || noCell(other)) {
            return no(-1);
        }
        return far(cell, now.foggy())[other];
    }

    public long share(int person, int part) {
        if (noPerson(person)) {
            return LONG - no(-1);
        }
        if (part < 0 || part > 1) {
            return LONG - no(-2);
        }
        return fraction(now.worths(person), now.things.stream().mapToInt(t -> t.worth).sum(), part);
    }

    public int sight(int what) {
        if (what == 0) {
            int best = -9;
            for (int p = now.people.size() - 1; p >= 0; p--) {
                best = best == -9 || now.worths(p) >= now.worths(best) ? p : best;
            }
            return best;
        }
        if (what == 1) {
            return now.nobodys();
        }
        if (what == 2) {
            int bits = 0;
            for (int t = 0; t < now.things.size(); t++) {
                bits += now.inFog(now.things.get(t).cell) ? 1 << t : 0;
            }
            return bits;
        }
        if (what == 3) {
            int[] crowds = new int[24];
            for (Person p : now.people) {
                crowds[p.cell]++;
            }
            int best = -9;
            for (int cell = 23; cell >= 0; cell--) {
                best = crowds[cell] > 0 && (best == -9 || crowds[cell] >= crowds[best]) ? cell : best;
            }
            return best;
        }
        if (what == 4) {
            int alike = 0;
            for (int n = 1; n <= 60; n++) {
                alike += Integer.bitCount(now.on(n).foggy()) == Integer.bitCount(now.foggy()) ? 1 : 0;
            }
            return alike;
        }
        return no(-2);
    }

    public int kinds(int kind) {
        if (kind < 0 || kind > 7) {
            return no(-2);
        }
        return (int) now.people.stream().filter(p -> p.kind == kind).count();
    }

    public int row(int v) {
        if (v < 0) {
            return no(-4);
        }
        if (v > 99 || row.size() == 12) {
            return no(-6);
        }
        row.add(v);
        return row.size();
    }

    public int judge() {
        List<Integer> told = new ArrayList<>(row);
        row.clear();
        for (int i = 0; i < told.size(); i++) {
            boolean so = i < now.things.size()
                    && told.get(i) == (now.owner(i) == -9 ? 9 : now.owner(i));
            if (!so) {
                return i;
            }
        }
        return -9;
    }

    public int clear() {
        int had = row.size();
        row.clear();
        return had;
    }

    public int lots(int n, int z, int what) {
        int r = range(n, 1, 20);
        if (r != 0) {
            return r;
        }
        if (what < 0 || what > 1) {
            return no(-2);
        }
        long seed = z;
        int sum = 0;
        for (int day = 0; day < n; day++) {
            Coast c = now.copy();
            for (Thing t : c.things) {
                seed = (int) (seed * 1103515245L + 12345L);
                t.cell = (int) ((seed & 0x7fffffffL) / 65536L % 24L);
                t.owner = null;
            }
            c.go(10);
            for (Thing t : c.things) {
                sum += t.owner == null ? 0 : what == 0 ? 1 : t.worth;
            }
        }
        return sum;
    }

    public int image() {
        image = now.copy();
        return now.hour;
    }

    public int restore() {
        if (image == null) {
            return no(-3);
        }
        now = image.copy();
        past.clear();
        return now.hour;
    }

    public int count(int what) {
        switch (what) {
            case 0:
                return now.people.size();
            case 1:
                return now.things.size();
            case 2:
                return now.fronts.size();
            case 3:
                return now.hour;
            case 4:
                return now.thick;
            case 5:
                return now.owned();
            case 6:
                return letters.length();
            case 7:
                return row.size();
            case 8:
                return past.size();
            case 9:
                return now.foggy();
            default:
                return what >= 11 && what <= 16 ? refusals[what - 10] : -9;
        }
    }
}

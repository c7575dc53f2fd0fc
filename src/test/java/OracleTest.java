import java.math.BigInteger;
import java.util.ArrayDeque;
import java.util.ArrayList;
import java.util.Deque;
import java.util.HashSet;
import java.util.List;
import java.util.Random;
import java.util.Set;

/**
 * Long runs of drawn calls, each answer against that of a second, slow program that was written from
 * the document in another way (trees, lists, big numbers, all orders one by one).
 */
public final class OracleTest {
    static final int RUNS = 600;

    public static void main(String[] args) {
        int wrong = 0;
        for (int run = 0; run < RUNS && wrong < 5; run++) {
            wrong += new Driver(run).go();
        }
        System.out.println(wrong == 0 ? "the slow program agrees" : wrong + " runs differ from the slow program");
        if (wrong != 0) {
            System.exit(1);
        }
    }

    // ---------------------------------------------------------------- the calls

    static final class Driver {
        final Random random;
        final int run;
        final UntilHeConfesses fast = new UntilHeConfesses();
        final Slow slow = new Slow();
        final List<String> told = new ArrayList<>();
        boolean differs;

        Driver(int run) {
            this.run = run;
            this.random = new Random(run * 7919L + 1);
        }

        int go() {
            int calls = 0;
            while (calls < 480 && !differs) {
                int sort = random.nextInt(36);
                if (sort < 3) {
                    calls += feedText();
                } else if (sort == 3 && run % 3 == 0) {
                    calls += seatTwo();
                } else {
                    call(pick());
                    calls++;
                }
            }
            if (differs) {
                System.out.println("run " + run + ":");
                int from = Math.max(0, told.size() - 60);
                for (String line : told.subList(from, told.size())) {
                    System.out.println("  " + line);
                }
            }
            return differs ? 1 : 0;
        }

        int pick() {
            int kind = random.nextInt(4);
            if (kind == 0) {
                return random.nextInt(2);
            }
            if (kind == 1) {
                return 8 + random.nextInt(10);
            }
            return random.nextInt(58);
        }

        int feedText() {
            String text = new Maker(random).text();
            byte[] bytes = new byte[text.length()];
            for (int i = 0; i < bytes.length; i++) {
                bytes[i] = (byte) text.charAt(i);
            }
            check("end(0)", fast.end(0), slow.end(0));
            int n = 1;
            for (int i = 0; i < bytes.length; i += 20) {
                int[] w = new int[5];
                for (int k = 0; k < 20; k++) {
                    int sign = i + k < bytes.length ? bytes[i + k] & 255 : 'x';
                    w[k / 4] = w[k / 4] << 8 | sign;
                }
                check("feed", fast.feed(w[0], w[1], w[2], w[3], w[4]), slow.feed(w[0], w[1], w[2], w[3], w[4]));
                n++;
            }
            check("end(" + bytes.length + ")", fast.end(bytes.length), slow.end(bytes.length));
            check("text() of " + text, fast.text(), slow.text());
            check("fault(0)", fast.fault(0), slow.fault(0));
            check("fault(1)", fast.fault(1), slow.fault(1));
            check("about(9)", fast.about(9), slow.about(9));
            return n + 5;
        }

        /** One leaves a seat, another is told on it, the steps are taken back: two are on it, when it is asked about. */
        int seatTwo() {
            int[] asked = {10, 40, 42, 44, 45, 51, 51};
            int p = person();
            int left = slow.has(p) ? slow.now.people.get(p).seat : up(39);
            int to = up(39);
            check("seat(" + p + "," + to + ")", b(fast.seat(p, to)), b(slow.seat(p, to)));
            check("suspect(false,5," + left + ")", fast.suspect(false, 5, left), slow.suspect(false, 5, left));
            int calls = 2;
            for (int k = 1 + random.nextInt(3); k > 0; k--) {
                check("undo()", fast.undo(), slow.undo());
                calls++;
            }
            for (int k = 0; k < 12; k++) {
                call(asked[random.nextInt(asked.length)]);
                calls++;
            }
            for (int row = 0; row < 4; row++) {
                check("empty(" + row + ")", fast.empty(row), slow.empty(row));
                calls++;
            }
            return calls;
        }

        void check(String call, long got, long want) {
            told.add(call + " = " + got + (got == want ? "" : "   BUT DUE IS " + want));
            if (got != want) {
                differs = true;
            }
        }

        int up(int most) {
            int sort = random.nextInt(24);
            if (sort == 0) {
                return -1;
            }
            if (sort == 1) {
                return most + 1;
            }
            if (sort == 2) {
                return random.nextInt(60) == 0 ? random.nextInt() : most;
            }
            return random.nextInt(most + 1);
        }

        int person() {
            int n = slow.now.people.size();
            return n > 0 && random.nextInt(12) != 0 ? random.nextInt(n) : up(6);
        }

        int act() {
            int n = slow.now.acts.size();
            return n > 0 && random.nextInt(12) != 0 ? random.nextInt(n) : up(7);
        }

        long b(boolean v) {
            return v ? 1 : 0;
        }

        void call(int kind) {
            boolean flag = random.nextBoolean();
            int p = person();
            int q = person();
            int c = act();
            int e = act();
            switch (kind) {
                case 0: { int n = up(9); int s = random.nextInt(3) == 0 ? up(39) : random.nextInt(4) * 10 + random.nextInt(5);
                    check("suspect(" + flag + "," + n + "," + s + ")", fast.suspect(flag, n, s), slow.suspect(flag, n, s)); break; }
                case 1: { int h = up(9); int l = up(9); check("scene(" + h + "," + l + ")", fast.scene(h, l), slow.scene(h, l)); break; }
                case 2: { int v = random.nextInt(); check("feed", fast.feed(v, v, v, v, v), slow.feed(v, v, v, v, v)); break; }
                case 3: { int n = up(300); check("end(" + n + ")", fast.end(n), slow.end(n)); break; }
                case 4: if (random.nextInt(8) == 0) { check("text()", fast.text(), slow.text()); } break;
                case 5: { int w = up(1); check("fault(" + w + ")", fast.fault(w), slow.fault(w)); break; }
                case 6: { int t = up(3); check("by(" + t + ")", b(fast.by(t)), b(slow.by(t))); break; }
                case 7: { int t = up(3); check("played(" + t + ")", fast.played(t), slow.played(t)); break; }
                case 8: check("cut(" + c + ")", fast.cut(c), slow.cut(c)); break;
                case 9: check("encore(" + c + ")", b(fast.encore(c)), b(slow.encore(c))); break;
                case 10: check("away(" + p + ")", fast.away(p), slow.away(p)); break;
                case 11: { int s = random.nextInt(3) == 0 ? up(39) : random.nextInt(4) * 10 + random.nextInt(5);
                    check("seat(" + p + "," + s + ")", b(fast.seat(p, s)), b(slow.seat(p, s))); break; }
                case 12: { int n = random.nextInt(3) == 0 ? up(60) : random.nextInt(3); check("night(" + n + ")", fast.night(n), slow.night(n)); break; }
                case 13: { int s = random.nextInt(8) == 0 ? up(9999) : random.nextInt(10000); int n = up(30); check("seasons(" + s + "," + n + ")", fast.seasons(s, n), slow.seasons(s, n)); break; }
                case 14: case 15: { for (int k = random.nextInt(4) == 0 ? random.nextInt(10) : 0; k >= 0; k--) { check("undo()", fast.undo(), slow.undo()); } break; }
                case 16: { int w = up(5); check("ofSuspect(" + p + "," + w + ")", fast.ofSuspect(p, w), slow.ofSuspect(p, w)); break; }
                case 17: { int w = up(3); check("ofScene(" + c + "," + w + ")", fast.ofScene(c, w), slow.ofScene(c, w)); break; }
                case 18: { int w = up(2); check("is(" + w + ")", fast.is(w), slow.is(w)); break; }
                case 19: { int i = up(39); int w = up(2); check("book(" + i + "," + w + ")", fast.book(i, w), slow.book(i, w)); break; }
                case 20: check("odds(" + p + "," + c + "," + flag + ")", fast.odds(p, c, flag), slow.odds(p, c, flag)); break;
                case 21: { int w = up(99); check("weight(" + p + "," + w + ")", b(fast.weight(p, w)), b(slow.weight(p, w))); break; }
                case 22: check("observe(" + p + "," + c + "," + flag + ")", fast.observe(p, c, flag), slow.observe(p, c, flag)); break;
                case 23: check("share(" + p + "," + flag + ")", fast.share(p, flag), slow.share(p, flag)); break;
                case 24: check("tellsMost()", fast.tellsMost(), slow.tellsMost()); break;
                case 25: check("guess()", fast.guess(), slow.guess()); break;
                case 26: check("both(" + p + "," + q + "," + flag + ")", fast.both(p, q, flag), slow.both(p, q, flag)); break;
                case 27: { int n = up(60); int w = up(1); check("foretold(" + n + "," + w + ")", fast.foretold(n, w), slow.foretold(n, w)); break; }
                case 28: { int n = up(60); check("habit(" + n + "," + p + ")", fast.habit(n, p), slow.habit(n, p)); break; }
                case 29: check("firstSign(" + p + ")", fast.firstSign(p), slow.firstSign(p)); break;
                case 30: { int set = random.nextInt(6) == 0 ? up(127) : random.nextInt(1 << slow.now.acts.size()); int i = random.nextInt(7) - 1;
                    check("order(" + p + "," + set + "," + i + ")", fast.order(p, set, i), slow.order(p, set, i)); break; }
                case 31: check("unseen(" + p + "," + flag + ")", fast.unseen(p, flag), slow.unseen(p, flag)); break;
                case 32: { int n = up(8); int o = up(10); check("risk(" + n + "," + o + ")", b(fast.risk(n, o)), b(slow.risk(n, o))); break; }
                case 33: { int n = up(9); int cc = random.nextBoolean() ? up(99) : up(9); int pp = random.nextBoolean() ? up(9999) : up(99); int w = up(2);
                    check("staysAway(" + n + "," + cc + "," + pp + "," + w + ")", fast.staysAway(n, cc, pp, w), slow.staysAway(n, cc, pp, w)); break; }
                case 34: { int t = up(9999); int d = up(999); int qq = up(10); int w = up(9999); int what = up(2);
                    if (random.nextBoolean()) { t = up(30); d = up(9); }
                    if (random.nextInt(4) == 0) { w = 0; }
                    check("toRun(" + t + "," + d + "," + qq + "," + w + "," + what + ")", fast.toRun(t, d, qq, w, what), slow.toRun(t, d, qq, w, what)); break; }
                case 35: { int m = random.nextBoolean() ? up(99) : up(20); check("cuts(" + m + ")", fast.cuts(m), slow.cuts(m)); break; }
                case 36: check("lasts()", fast.lasts(), slow.lasts()); break;
                case 37: check("ahead(" + c + "," + e + ")", fast.ahead(c, e), slow.ahead(c, e)); break;
                case 38: check("orders()", fast.orders(), slow.orders()); break;
                case 39: check("facing()", fast.facing(), slow.facing()); break;
                case 40: { int set = random.nextInt(6) == 0 ? up(63) : random.nextInt(1 << slow.now.people.size()); int s = random.nextInt(3) == 0 ? -1 : p;
                    check("seating(" + set + "," + s + ")", fast.seating(set, s), slow.seating(set, s)); break; }
                case 41: check("lonely()", fast.lonely(), slow.lonely()); break;
                case 42: check("bestSeat(" + p + "," + flag + ")", fast.bestSeat(p, flag), slow.bestSeat(p, flag)); break;
                case 43: check("worth()", fast.worth(), slow.worth()); break;
                case 44: { int r = up(3); boolean sat = random.nextInt(4) == 0; check("torn(" + p + "," + r + "," + sat + ")", fast.torn(p, r, sat), slow.torn(p, r, sat)); break; }
                case 45: check("sittings(" + flag + ")", fast.sittings(flag), slow.sittings(flag)); break;
                case 46: { int n = up(17); int h = up(10); check("claque(" + n + "," + h + "," + flag + ")", fast.claque(n, h, flag), slow.claque(n, h, flag)); break; }
                case 47: { int o = random.nextBoolean() && slow.has(p) && slow.hasAct(c) ? (int) slow.odds(p, c, true) : up(10);
                    check("sign(" + p + "," + c + "," + o + ")", fast.sign(p, c, o), slow.sign(p, c, o)); break; }
                case 48: check("whose()", fast.whose(), slow.whose()); break;
                case 49: { int s = random.nextInt(3) == 0 ? -1 : p; int a = random.nextInt(3) == 0 ? -1 : c;
                    check("signs(" + s + "," + a + ")", fast.signs(s, a), slow.signs(s, a)); break; }
                case 50: check("crying()", fast.crying(), slow.crying()); break;
                case 51: { int r = up(3); check("empty(" + r + ")", fast.empty(r), slow.empty(r)); break; }
                case 52: check("hottest()", fast.hottest(), slow.hottest()); break;
                case 53: check("suspected()", fast.suspected(), slow.suspected()); break;
                case 54: check("falseSigns()", fast.falseSigns(), slow.falseSigns()); break;
                case 55: if (random.nextInt(2) == 0) { check("image()", fast.image(), slow.image()); } break;
                case 56: if (random.nextInt(4) == 0) { check("back()", fast.back(), slow.back()); } break;
                default: { int w = up(9); check("about(" + w + ")", fast.about(w), slow.about(w)); break; }
            }
        }
    }

    // ---------------------------------------------------------------- texts, good and spoilt

    static final class Maker {
        final Random r;

        Maker(Random r) {
            this.r = r;
        }

        String text() {
            StringBuilder b = new StringBuilder();
            int clauses = r.nextInt(10) == 0 ? 26 : r.nextInt(7);
            boolean[] used = new boolean[3];
            for (int i = 0; i < clauses; i++) {
                b.append(clauses > 20 && r.nextInt(8) != 0 ? "cut" + r.nextInt(7) + ";" : clause(used));
                b.append(r.nextInt(4) == 0 ? "\n" : r.nextInt(3) == 0 ? " " : "");
            }
            if (r.nextInt(3) == 0 && b.length() > 0) {
                spoil(b);
            }
            if (b.length() > 300) {
                b.setLength(300);
            }
            return b.toString();
        }

        void spoil(StringBuilder b) {
            int at = r.nextInt(b.length());
            String signs = "0123456789+-*/(); \nabcxyzAZ%.\t\r\u0000\u00e9i";
            switch (r.nextInt(4)) {
                case 0: b.deleteCharAt(at); break;
                case 1: b.setCharAt(at, signs.charAt(r.nextInt(signs.length()))); break;
                case 2: b.insert(at, signs.charAt(r.nextInt(signs.length()))); break;
                default: b.setLength(at); break;
            }
        }

        String clause(boolean[] used) {
            int kind = r.nextInt(14);
            if (kind < 5) {
                int law = r.nextInt(3);
                if (used[law] && r.nextInt(6) != 0) {
                    return "cut " + r.nextInt(7) + ";";
                }
                used[law] = true;
                String[] names = {"guilt", "grief", "pays"};
                return names[law] + " " + sum(law, 0, false) + ";";
            }
            switch (kind) {
                case 5: return "suspect " + n(0, 9) + " on " + n(0, 39) + ";";
                case 6: return "murderer " + n(0, 9) + " on " + n(0, 39) + ";";
                case 7: return "scene " + n(0, 9) + " for " + n(1, 9) + ";";
                case 8: return "cut " + n(0, 6) + ";";
                case 9: return "encore " + n(0, 6) + ";";
                case 10: return "away " + n(0, 5) + ";";
                case 11: return "seat " + n(0, 5) + " on " + n(0, 39) + ";";
                default: return "night " + n(1, r.nextInt(6) == 0 ? 60 : 3) + ";";
            }
        }

        int n(int least, int most) {
            int sort = r.nextInt(40);
            if (sort == 0) {
                return most + 1;
            }
            if (sort == 1) {
                return Math.max(0, least - 1);
            }
            return least + r.nextInt(most - least + 1);
        }

        String sum(int law, int deep, boolean total) {
            StringBuilder b = new StringBuilder(product(law, deep, total));
            for (int k = r.nextInt(3); k > 0; k--) {
                b.append(r.nextBoolean() ? "+" : " - ").append(product(law, deep, total));
            }
            return b.toString();
        }

        String product(int law, int deep, boolean total) {
            StringBuilder b = new StringBuilder(one(law, deep, total));
            for (int k = r.nextInt(4) / 2; k > 0; k--) {
                b.append(r.nextBoolean() ? "*" : "/ ").append(one(law, deep, total));
            }
            return b.toString();
        }

        String one(int law, int deep, boolean total) {
            int kind = r.nextInt(10);
            if (kind < 3 || deep > 9) {
                int sort = r.nextInt(30);
                return sort == 0 ? "10000" : sort == 1 ? "9999" : sort == 2 ? "000" + r.nextInt(99) : "" + r.nextInt(9);
            }
            if (kind < 7) {
                String[] names = {"night", "nerves", "habit", "row", "place", "heat", "length", "number", "i"};
                int many = r.nextInt(30) == 0 ? 9 : law == 2 ? 5 : 8;
                return total && r.nextBoolean() ? "i" : names[r.nextInt(many)];
            }
            if (kind == 7) {
                return r.nextInt(12) == 0 ? "((((" + sum(law, deep + 4, total) + "))))" : "(" + sum(law, deep + 1, total) + ")";
            }
            if (kind == 8) {
                return r.nextInt(12) == 0 ? "---" + one(law, deep + 3, total) : "-" + one(law, deep + 1, total);
            }
            if (total && r.nextInt(5) != 0) {
                return "i";
            }
            return "total " + n(1, 9) + " of " + one(law, deep + 1, true);
        }
    }

    // ---------------------------------------------------------------- the slow program

    static final class Person {
        boolean guilty;
        int nerves;
        int told;
        int seat;
        int habit;
        boolean comes = true;
        int weight = 1;

        Person copy() {
            Person p = new Person();
            p.guilty = guilty; p.nerves = nerves; p.told = told; p.seat = seat; p.habit = habit; p.comes = comes; p.weight = weight;
            return p;
        }
    }

    static final class Act {
        int heat;
        int length;
        boolean cut;
        boolean encored;

        Act copy() {
            Act a = new Act();
            a.heat = heat; a.length = length; a.cut = cut; a.encored = encored;
            return a;
        }
    }

    interface Node {
        long value(long[] env);
    }

    static final class Script {
        final Node[] laws = new Node[3];
        final List<int[]> clauses = new ArrayList<>();
    }

    static final class World {
        List<Person> people = new ArrayList<>();
        List<Act> acts = new ArrayList<>();
        int night;
        long takings;
        int x = 113;
        List<int[]> book = new ArrayList<>();
        List<Script> texts = new ArrayList<>();
        int ruling = -1;
        List<int[]> observed = new ArrayList<>();
        List<int[]> ahead = new ArrayList<>();
        List<int[]> torn = new ArrayList<>();
        List<int[]> signs = new ArrayList<>();
        int[] risks = new int[9];
        Deque<World> steps = new ArrayDeque<>();

        World copy(boolean withSteps) {
            World w = new World();
            for (Person p : people) {
                w.people.add(p.copy());
            }
            for (Act a : acts) {
                w.acts.add(a.copy());
            }
            w.night = night; w.takings = takings; w.x = x;
            w.book = new ArrayList<>(book);
            w.texts = new ArrayList<>(texts);
            w.ruling = ruling;
            w.observed = new ArrayList<>(observed);
            w.ahead = new ArrayList<>(ahead);
            w.torn = new ArrayList<>(torn);
            w.signs = new ArrayList<>(signs);
            w.risks = risks.clone();
            if (withSteps) {
                w.steps = new ArrayDeque<>(steps);
            }
            return w;
        }
    }

    static final class Wrong extends Exception {
        private static final long serialVersionUID = 1;
        final int what;
        final int place;

        Wrong(int what, int place) {
            this.what = what;
            this.place = place;
        }
    }

    static final class Slow {
        World now = new World();
        World image = new World();
        String tape = "";
        int fault = -1;
        int place = -1;

        int suspect(boolean guilty, int nerves, int seat) {
            if (now.people.size() == 6 || nerves < 0 || nerves > 9 || !free(seat)) {
                return -1;
            }
            Person p = new Person();
            p.guilty = guilty; p.nerves = nerves; p.seat = seat; p.told = seat;
            now.people.add(p);
            return now.people.size() - 1;
        }

        boolean free(int seat) {
            return seat >= 0 && seat <= 39 && now.people.stream().noneMatch(p -> p.seat == seat);
        }

        boolean has(int s) {
            return s >= 0 && s < now.people.size();
        }

        boolean hasAct(int s) {
            return s >= 0 && s < now.acts.size();
        }

        int scene(int heat, int length) {
            if (now.acts.size() == 7 || heat < 0 || heat > 9 || length < 1 || length > 9) {
                return -1;
            }
            Act a = new Act();
            a.heat = heat; a.length = length;
            now.acts.add(a);
            return now.acts.size() - 1;
        }

        int feed(int... words) {
            if (tape.length() + 20 > 300) {
                return -1;
            }
            for (int w : words) {
                tape += "" + (char) (w >>> 24) + (char) (w >>> 16 & 255) + (char) (w >>> 8 & 255) + (char) (w & 255);
            }
            return tape.length();
        }

        int end(int n) {
            if (n < 0 || n > tape.length()) {
                return -1;
            }
            tape = tape.substring(0, n);
            return n;
        }

        int text() {
            if (now.texts.size() == 4) {
                return -1;
            }
            String read = tape;
            tape = "";
            try {
                Script s = new SlowReader(read).script();
                fault = 0;
                place = -1;
                now.texts.add(s);
                return now.texts.size() - 1;
            } catch (Wrong w) {
                fault = w.what;
                place = w.place;
                return -1;
            }
        }

        int fault(int what) {
            return what == 0 ? fault : what == 1 ? place : -1;
        }

        boolean by(int t) {
            if (t < -1 || t >= now.texts.size()) {
                return false;
            }
            now.ruling = t;
            return true;
        }

        void step() {
            now.steps.addLast(now.copy(false));
            if (now.steps.size() > 30) {
                now.steps.removeFirst();
            }
        }

        int cut(int c) {
            if (!hasAct(c)) {
                return -1;
            }
            step();
            now.acts.get(c).cut = !now.acts.get(c).cut;
            return (int) now.acts.stream().filter(a -> !a.cut).count();
        }

        boolean encore(int c) {
            if (!hasAct(c) || now.acts.get(c).cut || now.acts.get(c).encored) {
                return false;
            }
            step();
            now.acts.get(c).encored = true;
            return true;
        }

        int away(int s) {
            if (!has(s)) {
                return -1;
            }
            step();
            now.people.get(s).comes = !now.people.get(s).comes;
            return (int) now.people.stream().filter(p -> p.comes).count();
        }

        boolean seat(int s, int seat) {
            if (!has(s) || !free(seat)) {
                return false;
            }
            step();
            now.people.get(s).seat = seat;
            return true;
        }

        int night(int n) {
            if (n < 1 || n > 60 || now.night + n > 9999) {
                return -1;
            }
            int shown = 0;
            for (int k = 0; k < n; k++) {
                step();
                shown += pass().size();
            }
            return shown;
        }

        List<int[]> pass() {
            List<int[]> shown = new ArrayList<>();
            for (int c = 0; c < now.acts.size(); c++) {
                Act a = now.acts.get(c);
                if (a.cut) {
                    continue;
                }
                for (int k = 0; k < (a.encored ? 2 : 1); k++) {
                    for (int s = 0; s < now.people.size(); s++) {
                        if (now.people.get(s).comes) {
                            int drawn = now.x % 10;
                            now.x = (now.x * 347 + 229) % 30403;
                            if (drawn < odds(s, c, now.people.get(s).guilty)) {
                                shown.add(new int[] {now.night, c, s});
                            }
                        }
                    }
                }
            }
            now.book.addAll(shown);
            while (now.book.size() > 40) {
                now.book.remove(0);
            }
            long paid = worth();
            now.takings = Math.min(99999999, now.takings + paid);
            for (Person p : now.people) {
                if (p.comes) {
                    p.habit = Math.min(9, p.habit + 1);
                }
            }
            now.acts.forEach(a -> a.encored = false);
            now.night++;
            return shown;
        }

        int played(int t) {
            if (t < 0 || t >= now.texts.size()) {
                return -2;
            }
            List<int[]> clauses = now.texts.get(t).clauses;
            for (int k = 0; k < clauses.size(); k++) {
                int[] c = clauses.get(k);
                boolean done = true;
                switch (c[0]) {
                    case 3: done = suspect(false, c[1], c[2]) >= 0; break;
                    case 4: done = suspect(true, c[1], c[2]) >= 0; break;
                    case 5: done = scene(c[1], c[2]) >= 0; break;
                    case 6: done = cut(c[1]) >= 0; break;
                    case 7: done = encore(c[1]); break;
                    case 8: done = away(c[1]) >= 0; break;
                    case 9: done = seat(c[1], c[2]); break;
                    case 10:
                        for (int i = 0; i < c[1]; i++) {
                            done = night(1) >= 0;
                        }
                        break;
                    default: break;
                }
                if (!done) {
                    return k;
                }
            }
            return -1;
        }

        int seasons(int seed, int n) {
            if (seed < 0 || seed > 9999 || n < 1 || n > 30) {
                return -1;
            }
            step();
            Deque<World> steps = new ArrayDeque<>(now.steps);
            now.x = seed * 2 + 113;
            for (int k = 0; k < n; k++) {
                int x = now.x;
                now.x = (x * 347 + 229) % 30403;
                int acts = now.acts.size();
                int people = now.people.size();
                switch (x % 6) {
                    case 0: if (acts > 0) { cut(x % acts); } break;
                    case 1: if (acts > 0) { encore(x % acts); } break;
                    case 2: if (people > 0) { away(x % people); } break;
                    case 3: if (people > 0) { seat(x % people, x % 40); } break;
                    default: night(1); break;
                }
            }
            now.steps = steps;
            return now.night;
        }

        int undo() {
            if (now.steps.isEmpty()) {
                return -1;
            }
            World old = now.steps.removeLast();
            for (int s = 0; s < now.people.size(); s++) {
                Person p = now.people.get(s);
                boolean was = s < old.people.size();
                p.seat = was ? old.people.get(s).seat : p.told;
                p.habit = was ? old.people.get(s).habit : 0;
                p.comes = !was || old.people.get(s).comes;
            }
            for (int c = 0; c < now.acts.size(); c++) {
                boolean was = c < old.acts.size();
                now.acts.get(c).cut = was && old.acts.get(c).cut;
                now.acts.get(c).encored = was && old.acts.get(c).encored;
            }
            now.night = old.night;
            now.takings = old.takings;
            now.x = old.x;
            now.book = new ArrayList<>(old.book);
            return now.steps.size();
        }

        int ofSuspect(int s, int what) {
            if (!has(s) || what < 0 || what > 5) {
                return -1;
            }
            Person p = now.people.get(s);
            int[] all = {p.guilty ? 1 : 0, p.nerves, p.seat, p.habit, p.comes ? 1 : 0, (int) pays(s)};
            return all[what];
        }

        int ofScene(int c, int what) {
            if (!hasAct(c) || what < 0 || what > 3) {
                return -1;
            }
            Act a = now.acts.get(c);
            return new int[] {a.heat, a.length, a.cut ? 1 : 0, a.encored ? 1 : 0}[what];
        }

        long is(int what) {
            return what == 0 ? now.night : what == 1 ? now.takings : what == 2 ? now.x : -2;
        }

        int book(int i, int what) {
            if (i == -1) {
                return now.book.size();
            }
            if (i < 0 || i >= now.book.size() || what < 0 || what > 2) {
                return -2;
            }
            return now.book.get(i)[what];
        }

        long[] env(int s) {
            Person p = now.people.get(s);
            return new long[] {now.night, p.nerves, p.habit, p.seat / 10, p.seat % 10, 0, 0, 0, 0};
        }

        long odds(int s, int c, boolean guilt) {
            if (!has(s) || !hasAct(c)) {
                return -1;
            }
            return oddsBy(now.ruling < 0 ? null : now.texts.get(now.ruling), s, c, guilt);
        }

        long oddsBy(Script t, int s, int c, boolean guilt) {
            Act a = now.acts.get(c);
            Node law = t == null ? null : t.laws[guilt ? 0 : 1];
            if (law == null) {
                return guilt ? Math.max(0, a.heat - now.people.get(s).habit / 2) : 1;
            }
            long[] env = env(s);
            env[5] = a.heat;
            env[6] = a.length;
            env[7] = c;
            return Math.max(0, Math.min(10, law.value(env)));
        }

        long pays(int s) {
            Node law = now.ruling < 0 ? null : now.texts.get(now.ruling).laws[2];
            if (law == null) {
                return 10 - now.people.get(s).seat / 10;
            }
            return Math.max(0, Math.min(999, law.value(env(s))));
        }

        long worth() {
            long sum = 0;
            for (int s = 0; s < now.people.size(); s++) {
                sum += now.people.get(s).comes ? pays(s) : 0;
            }
            return sum;
        }

        boolean weight(int s, int w) {
            if (!has(s) || w < 0 || w > 99) {
                return false;
            }
            now.people.get(s).weight = w;
            return true;
        }

        int list(List<int[]> list, boolean fits, int... entry) {
            if (entry[0] == -1) {
                list.clear();
                return 0;
            }
            if (!fits || list.size() == 8) {
                return -2;
            }
            list.add(entry);
            return list.size();
        }

        int observe(int s, int c, boolean sign) {
            return list(now.observed, has(s) && hasAct(c), s, c, sign ? 1 : 0);
        }

        BigInteger chance(Set<Integer> guilty) {
            BigInteger all = BigInteger.ONE;
            for (int s : guilty) {
                all = all.multiply(BigInteger.valueOf(now.people.get(s).weight));
            }
            for (int[] o : now.observed) {
                long odds = odds(o[0], o[1], guilty.contains(o[0]));
                all = all.multiply(BigInteger.valueOf(o[2] == 1 ? odds : 10 - odds));
            }
            return all;
        }

        static long lowest(BigInteger up, BigInteger down, boolean low) {
            if (down.signum() == 0) {
                return low ? 1 : 0;
            }
            BigInteger g = up.gcd(down);
            return (low ? down : up).divide(g).longValueExact();
        }

        long share(int s, boolean low) {
            if (!has(s)) {
                return -1;
            }
            BigInteger all = BigInteger.ZERO;
            for (int k = 0; k < now.people.size(); k++) {
                all = all.add(chance(Set.of(k)));
            }
            return lowest(chance(Set.of(s)), all, low);
        }

        long both(int s, int t, boolean low) {
            if (!has(s) || !has(t) || s == t) {
                return -1;
            }
            BigInteger all = BigInteger.ZERO;
            for (int k = 0; k < now.people.size(); k++) {
                for (int l = 0; l < k; l++) {
                    all = all.add(chance(Set.of(k, l)));
                }
            }
            return lowest(chance(Set.of(s, t)), all, low);
        }

        int guess() {
            int best = -1;
            for (int s = now.people.size() - 1; s >= 0; s--) {
                BigInteger mine = chance(Set.of(s));
                if (mine.signum() > 0 && (best < 0 || mine.compareTo(chance(Set.of(best))) >= 0)) {
                    best = s;
                }
            }
            return best;
        }

        int tellsMost() {
            int best = -1;
            long most = 0;
            for (int c = now.acts.size() - 1; c >= 0; c--) {
                long sum = 0;
                for (int s = 0; s < now.people.size(); s++) {
                    sum += now.people.get(s).weight * Math.abs(odds(s, c, true) - odds(s, c, false));
                }
                if (sum >= most) {
                    most = sum;
                    best = c;
                }
            }
            return best;
        }

        long foretold(int n, int what) {
            if (n < 1 || n > 60 || what < 0 || what > 1) {
                return -1;
            }
            World kept = now;
            now = kept.copy(false);
            int shown = 0;
            for (int k = 0; k < n && now.night < 9999; k++) {
                shown += pass().size();
            }
            long answer = what == 0 ? shown : now.takings;
            now = kept;
            return answer;
        }

        int habit(int n, int s) {
            if (n < 1 || n > 60 || !has(s)) {
                return -1;
            }
            int can = Math.min(n, 9999 - now.night);
            Person p = now.people.get(s);
            return p.comes ? Math.min(9, p.habit + can) : p.habit;
        }

        int firstSign(int s) {
            if (!has(s)) {
                return -1;
            }
            World kept = now;
            now = kept.copy(false);
            int first = -1;
            for (int k = 1; k <= 60 && now.night < 9999 && first < 0; k++) {
                if (pass().stream().anyMatch(b -> b[2] == s)) {
                    first = k;
                }
            }
            now = kept;
            return first;
        }

        static void orders(List<Integer> rest, List<Integer> row, List<List<Integer>> all) {
            if (rest.isEmpty()) {
                all.add(new ArrayList<>(row));
            }
            for (int i = 0; i < rest.size(); i++) {
                List<Integer> less = new ArrayList<>(rest);
                row.add(less.remove(i));
                orders(less, row, all);
                row.remove(row.size() - 1);
            }
        }

        static List<Integer> members(int set) {
            List<Integer> all = new ArrayList<>();
            for (int i = 0; i < 32; i++) {
                if ((set & 1 << i) != 0) {
                    all.add(i);
                }
            }
            return all;
        }

        static List<List<Integer>> orders(List<Integer> of) {
            List<List<Integer>> all = new ArrayList<>();
            orders(of, new ArrayList<>(), all);
            return all;
        }

        long order(int s, int set, int i) {
            List<Integer> of = members(set);
            if (!has(s) || of.isEmpty() || of.size() > 5 || !of.stream().allMatch(this::hasAct) || i < -1 || i >= of.size()) {
                return -2;
            }
            long most = -1;
            List<Integer> best = null;
            for (List<Integer> row : orders(of)) {
                long sum = 0;
                for (int k = 0; k < row.size(); k++) {
                    long o = odds(s, row.get(k), true);
                    if (k > 0 && now.acts.get(row.get(k)).heat <= now.acts.get(row.get(k - 1)).heat) {
                        o = Math.max(0, o - 1);
                    }
                    sum += o;
                }
                if (sum > most) {
                    most = sum;
                    best = row;
                }
            }
            return i < 0 ? most : best.get(i);
        }

        long unseen(int s, boolean low) {
            if (!has(s)) {
                return -1;
            }
            BigInteger up = BigInteger.ONE;
            BigInteger down = BigInteger.ONE;
            for (int c = 0; c < now.acts.size(); c++) {
                Act a = now.acts.get(c);
                for (int k = 0; k < (a.cut ? 0 : a.encored ? 2 : 1); k++) {
                    up = up.multiply(BigInteger.valueOf(10 - odds(s, c, true)));
                    down = down.multiply(BigInteger.TEN);
                }
            }
            return lowest(up, down, low);
        }

        boolean risk(int n, int o) {
            if (n < 0 || n > 8 || o < 0 || o > 10) {
                return false;
            }
            now.risks[n] = o;
            return true;
        }

        long staysAway(int n, int c, int p, int what) {
            if (n < 1 || n > 9 || c < 0 || c > 99 || p < 0 || p > 9999 || what < 0 || what > 2) {
                return -1;
            }
            BigInteger ten = BigInteger.TEN.pow(9);
            BigInteger least = null;
            int best = -1;
            for (int set = (1 << n) - 1; set >= 0; set--) {
                BigInteger hidden = BigInteger.ONE;
                for (int k = 0; k < 9; k++) {
                    boolean there = k < n && (set & 1 << k) == 0;
                    hidden = hidden.multiply(BigInteger.valueOf(there ? 10 - now.risks[k] : 10));
                }
                BigInteger cost = ten.multiply(BigInteger.valueOf((long) Integer.bitCount(set) * c))
                    .add(ten.subtract(hidden).multiply(BigInteger.valueOf(p)));
                if (least == null || cost.compareTo(least) <= 0) {
                    least = cost;
                    best = set;
                }
            }
            return what == 0 ? best : lowest(least, ten, what == 2);
        }

        long toRun(int t, int d, int q, int w, int what) {
            if (t < 0 || t > 9999 || d < 0 || d > 999 || q < 0 || q > 10 || w < 0 || w > 9999 || what < 0 || what > 2) {
                return -1;
            }
            BigInteger down = BigInteger.TEN.pow(9);
            BigInteger most = null;
            int best = -1;
            for (int n = 9; n >= 0; n--) {
                // the means of n NIGHTS by how it ends: in NIGHT k he confesses, or he never does
                BigInteger mean = BigInteger.ZERO;
                long taken = 0;
                for (int k = 1; k <= n; k++) {
                    taken += Math.max(0, t - d * (k - 1));
                    BigInteger odds = BigInteger.valueOf(10 - q).pow(k - 1).multiply(BigInteger.valueOf(q)).multiply(BigInteger.TEN.pow(9 - k));
                    mean = mean.add(odds.multiply(BigInteger.valueOf(taken + w)));
                }
                BigInteger never = BigInteger.valueOf(10 - q).pow(n).multiply(BigInteger.TEN.pow(9 - n));
                mean = mean.add(never.multiply(BigInteger.valueOf(taken)));
                if (most == null || mean.compareTo(most) >= 0) {
                    most = mean;
                    best = n;
                }
            }
            return what == 0 ? best : lowest(most, down, what == 2);
        }

        int cuts(int m) {
            if (m < 0 || m > 99) {
                return -1;
            }
            int best = 0;
            int most = 0;
            int shortest = 0;
            for (int set = 0; set < 1 << now.acts.size(); set++) {
                int heat = members(set).stream().mapToInt(c -> now.acts.get(c).heat).sum();
                int length = members(set).stream().mapToInt(c -> now.acts.get(c).length).sum();
                boolean better = heat > most || heat == most && length < shortest;
                if (length <= m && better) {
                    best = set;
                    most = heat;
                    shortest = length;
                }
            }
            return best;
        }

        int lasts() {
            return now.acts.stream().mapToInt(a -> a.cut ? 0 : a.encored ? 2 * a.length : a.length).sum();
        }

        int ahead(int c, int d) {
            return list(now.ahead, hasAct(c) && hasAct(d) && c != d, c, d);
        }

        int orders() {
            int many = 0;
            for (List<Integer> row : orders(members((1 << now.acts.size()) - 1))) {
                if (now.ahead.stream().allMatch(a -> row.indexOf(a[0]) < row.indexOf(a[1]))) {
                    many++;
                }
            }
            return many;
        }

        static boolean face(int a, int b) {
            return a != b && Math.abs(a / 10 - b / 10) <= 1 && Math.abs(a % 10 - b % 10) <= 2;
        }

        int facing() {
            int many = 0;
            for (int a = 0; a < now.people.size(); a++) {
                for (int b = 0; b < a; b++) {
                    many += face(now.people.get(a).seat, now.people.get(b).seat) ? 1 : 0;
                }
            }
            return many;
        }

        int seating(int set, int s) {
            List<Integer> of = members(set);
            if (of.isEmpty() || of.size() > 5 || !of.stream().allMatch(this::has) || s != -1 && !of.contains(s)) {
                return -2;
            }
            List<Integer> seats = new ArrayList<>();
            int[] was = now.people.stream().mapToInt(p -> p.seat).toArray();
            of.forEach(k -> seats.add(was[k]));
            int most = -1;
            int[] best = null;
            for (List<Integer> row : orders(seats)) {
                for (int k = 0; k < of.size(); k++) {
                    now.people.get(of.get(k)).seat = row.get(k);
                }
                int many = facing();
                int[] is = now.people.stream().mapToInt(p -> p.seat).toArray();
                if (many > most || many == most && before(is, best)) {
                    most = many;
                    best = is;
                }
            }
            for (int k = 0; k < was.length; k++) {
                now.people.get(k).seat = was[k];
            }
            return s == -1 ? most : best[s];
        }

        static boolean before(int[] a, int[] b) {
            for (int k = 0; k < a.length; k++) {
                if (a[k] != b[k]) {
                    return a[k] < b[k];
                }
            }
            return false;
        }

        int lonely() {
            int bits = 0;
            for (int a = 0; a < now.people.size(); a++) {
                int mine = now.people.get(a).seat;
                if (now.people.stream().noneMatch(p -> face(p.seat, mine))) {
                    bits |= 1 << a;
                }
            }
            return bits;
        }

        int bestSeat(int s, boolean faced) {
            if (!has(s)) {
                return -1;
            }
            int best = -1;
            int most = -1;
            for (int seat = 0; seat < 40; seat++) {
                if (free(seat) || now.people.get(s).seat == seat) {
                    int many = 0;
                    for (int k = 0; k < now.people.size(); k++) {
                        many += k != s && face(now.people.get(k).seat, seat) ? 1 : 0;
                    }
                    if (many > most) {
                        most = many;
                        best = seat;
                    }
                }
            }
            return faced ? most : best;
        }

        int torn(int s, int row, boolean sat) {
            return list(now.torn, has(s) && row >= 0 && row <= 3, s, row, sat ? 1 : 0);
        }

        int sittings(boolean sure) {
            int n = now.people.size();
            if (n == 6) {
                return -1;
            }
            List<List<Integer>> good = new ArrayList<>();
            for (List<Integer> row : orders(members((1 << n) - 1))) {
                List<Integer> seats = new ArrayList<>();
                row.forEach(k -> seats.add(now.people.get(k).seat));
                if (now.torn.stream().allMatch(t -> seats.get(t[0]) / 10 == t[1] == (t[2] == 1))) {
                    good.add(seats);
                }
            }
            if (!sure) {
                return good.size();
            }
            int bits = 0;
            for (int s = 0; s < n && !good.isEmpty(); s++) {
                Set<Integer> seats = new HashSet<>();
                for (List<Integer> g : good) {
                    seats.add(g.get(s));
                }
                bits |= seats.size() == 1 ? 1 << s : 0;
            }
            return bits;
        }

        long claque(int n, int h, boolean low) {
            if (n < 1 || n > 17 || n % 2 == 0 || h < 0 || h > 10) {
                return -1;
            }
            BigInteger[] ways = new BigInteger[n + 1];
            java.util.Arrays.fill(ways, BigInteger.ZERO);
            ways[0] = BigInteger.ONE;
            for (int k = 0; k < n; k++) {
                for (int b = n; b >= 0; b--) {
                    BigInteger not = ways[b].multiply(BigInteger.valueOf(10 - h));
                    ways[b] = b == 0 ? not : not.add(ways[b - 1].multiply(BigInteger.valueOf(h)));
                }
            }
            BigInteger up = BigInteger.ZERO;
            for (int b = n / 2 + 1; b <= n; b++) {
                up = up.add(ways[b]);
            }
            return lowest(up, BigInteger.TEN.pow(n), low);
        }

        int sign(int s, int c, int o) {
            return list(now.signs, has(s) && hasAct(c) && o >= 0 && o <= 10, s, c, o);
        }

        int whose() {
            int bits = 0;
            for (int t = 0; t < now.texts.size(); t++) {
                Script script = now.texts.get(t);
                bits |= now.signs.stream().allMatch(g -> oddsBy(script, g[0], g[1], true) == g[2]) ? 1 << t : 0;
            }
            return bits;
        }

        int signs(int s, int c) {
            if (s != -1 && !has(s) || c != -1 && !hasAct(c)) {
                return -2;
            }
            return (int) now.book.stream().filter(b -> (s == -1 || b[2] == s) && (c == -1 || b[1] == c)).count();
        }

        int crying() {
            int best = -1;
            int most = 1;
            for (int s = now.people.size() - 1; s >= 0; s--) {
                if (signs(s, -1) >= most) {
                    most = signs(s, -1);
                    best = s;
                }
            }
            return best;
        }

        int empty(int row) {
            if (row < 0 || row > 3) {
                return -1;
            }
            Set<Integer> taken = new HashSet<>();
            now.people.stream().filter(p -> p.comes && p.seat / 10 == row).forEach(p -> taken.add(p.seat));
            return 10 - taken.size();
        }

        int hottest() {
            int best = -1;
            for (int c = 0; c < now.acts.size(); c++) {
                if (!now.acts.get(c).cut && (best < 0 || now.acts.get(c).heat > now.acts.get(best).heat)) {
                    best = c;
                }
            }
            return best;
        }

        int suspected() {
            int bits = 0;
            for (Person p : now.people) {
                bits |= p.guilty && p.comes ? 1 << p.seat / 10 : 0;
            }
            return bits;
        }

        int falseSigns() {
            return (int) now.book.stream().filter(b -> !now.people.get(b[2]).guilty).count();
        }

        int image() {
            image = now.copy(true);
            return now.night;
        }

        int back() {
            now = image.copy(true);
            return now.night;
        }

        int about(int what) {
            int[] all = {now.people.size(), now.acts.size(), now.texts.size(), now.ruling, now.steps.size(),
                now.observed.size(), now.ahead.size(), now.torn.size(), now.signs.size(), tape.length()};
            return what < 0 || what > 9 ? -2 : all[what];
        }
    }

    static final class SlowReader {
        static final List<String> CLAUSES = List.of("guilt", "grief", "pays", "suspect", "murderer", "scene", "cut",
            "encore", "away", "seat", "night");
        static final List<String> NAMES = List.of("night", "nerves", "habit", "row", "place", "heat", "length", "number", "i");
        final String text;
        int at;
        String token = "";
        int start;
        int open;
        boolean total;
        int law;

        SlowReader(String text) {
            this.text = text;
            next();
        }

        void next() {
            while (at < text.length() && (text.charAt(at) == ' ' || text.charAt(at) == '\n')) {
                at++;
            }
            start = at;
            while (at < text.length() && (at == start || same(text.charAt(at - 1), text.charAt(at)))) {
                at++;
            }
            token = text.substring(start, at);
        }

        static boolean letter(char c) {
            return c >= 'a' && c <= 'z' || c >= 'A' && c <= 'Z';
        }

        static boolean digit(char c) {
            return c >= '0' && c <= '9';
        }

        static boolean same(char a, char b) {
            return letter(a) && letter(b) || digit(a) && digit(b);
        }

        Wrong wrong(int what) {
            return new Wrong(what, start);
        }

        void pass(String wanted) throws Wrong {
            if (!token.equals(wanted)) {
                throw wrong(1);
            }
            next();
        }

        int number(int least, int most) throws Wrong {
            if (token.isEmpty() || !digit(token.charAt(0))) {
                throw wrong(1);
            }
            BigInteger value = new BigInteger(token);
            if (value.compareTo(BigInteger.valueOf(most)) > 0 || value.intValue() < least) {
                throw wrong(2);
            }
            next();
            return value.intValue();
        }

        Script script() throws Wrong {
            Script s = new Script();
            while (!token.isEmpty()) {
                int kind = CLAUSES.indexOf(token);
                if (kind < 0) {
                    throw wrong(1);
                }
                if (kind < 3 && s.laws[kind] != null) {
                    throw wrong(4);
                }
                if (s.clauses.size() == 24) {
                    throw wrong(6);
                }
                next();
                int[] clause = {kind, 0, 0};
                if (kind < 3) {
                    law = kind;
                    s.laws[kind] = sum();
                } else if (kind == 3 || kind == 4) {
                    clause[1] = number(0, 9); pass("on"); clause[2] = number(0, 39);
                } else if (kind == 5) {
                    clause[1] = number(0, 9); pass("for"); clause[2] = number(1, 9);
                } else if (kind == 9) {
                    clause[1] = number(0, 5); pass("on"); clause[2] = number(0, 39);
                } else {
                    clause[1] = kind == 10 ? number(1, 60) : number(0, kind == 8 ? 5 : 6);
                }
                pass(";");
                s.clauses.add(clause);
            }
            return s;
        }

        static long clip(long v) {
            return Math.max(-1000000, Math.min(1000000, v));
        }

        Node sum() throws Wrong {
            Node left = product();
            while (token.equals("+") || token.equals("-")) {
                int sign = token.equals("+") ? 1 : -1;
                next();
                Node a = left;
                Node b = product();
                left = env -> clip(a.value(env) + sign * b.value(env));
            }
            return left;
        }

        Node product() throws Wrong {
            Node left = one();
            while (token.equals("*") || token.equals("/")) {
                boolean times = token.equals("*");
                next();
                Node a = left;
                Node b = one();
                left = env -> {
                    long u = a.value(env);
                    long v = b.value(env);
                    return times ? clip(u * v) : v == 0 ? 0 : u / v;
                };
            }
            return left;
        }

        Node one() throws Wrong {
            if (!token.isEmpty() && digit(token.charAt(0))) {
                long n = number(0, 9999);
                return env -> n;
            }
            int name = NAMES.indexOf(token);
            if (name >= 0) {
                if (name == 8 && !total || law == 2 && name >= 5 && name <= 7) {
                    throw wrong(5);
                }
                next();
                return env -> env[name];
            }
            if (!token.equals("(") && !token.equals("-") && !token.equals("total")) {
                throw wrong(1);
            }
            if (open == 8) {
                throw wrong(3);
            }
            open++;
            Node made;
            if (token.equals("(")) {
                next();
                made = sum();
                pass(")");
            } else if (token.equals("-")) {
                next();
                Node of = one();
                made = env -> -of.value(env);
            } else {
                made = total();
            }
            open--;
            return made;
        }

        Node total() throws Wrong {
            if (total) {
                throw wrong(7);
            }
            total = true;
            next();
            int n = number(1, 9);
            pass("of");
            Node of = one();
            total = false;
            return env -> {
                long all = 0;
                for (int i = 0; i < n; i++) {
                    env[8] = i;
                    all = clip(all + of.value(env));
                }
                return all;
            };
        }
    }
}

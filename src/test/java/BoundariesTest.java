import java.nio.charset.StandardCharsets;
import java.util.ArrayList;
import java.util.List;

/**
 * Each sentence of the document that names a bound (too small, too large, empty, full, a wrap-around, a refused
 * call), in the document's order, with a test of its own. A refused call must leave all as it was: that is seen by
 * two houses of like making, one with the call and one without, compared by views of all that a house holds.
 */
public final class BoundariesTest {
    private interface House {
        void tell(UntilHeConfesses x);
    }

    private interface Call {
        long of(UntilHeConfesses x);
    }

    private interface Deed {
        boolean done(UntilHeConfesses x);
    }

    private interface View {
        void see(UntilHeConfesses x, List<Long> seen);
    }

    private static final int LEAST = Integer.MIN_VALUE;
    private static final int MOST = Integer.MAX_VALUE;
    private static final List<View> VIEWS = List.of(BoundariesTest::seeHouse, BoundariesTest::seeBelief,
        BoundariesTest::seeSteps, BoundariesTest::seeImage);

    private static String sentence = "";
    private static int checked;
    private static int wrong;

    public static void main(String[] args) {
        calls();
        suspects();
        scenes();
        atFirst();
        bookOfForty();
        aNight();
        draws();
        lastNight();
        byHand();
        steps();
        toldSince();
        tapes();
        signsOfTexts();
        numbersOfTexts();
        clausesOfTexts();
        opened();
        leastFault();
        endOfTexts();
        sums();
        boundsOfLaws();
        ruled();
        played();
        weights();
        observed();
        telling();
        twoMurderers();
        foretold();
        bestOrder();
        seen();
        staysAway();
        toRun();
        cuts();
        runningOrder();
        facing();
        seating();
        bestSeat();
        torn();
        claque();
        whoseLaw();
        byTheBook();
        rows();
        seasons();
        images();
        asked();
        changesNothing();
        System.out.println(checked + " checks, " + wrong + " wrong");
        if (wrong != 0) {
            System.exit(1);
        }
    }

    // ---------------------------------------------------------------- how it is checked

    private static void sentence(String words) {
        sentence = words;
    }

    private static void due(String what, long got, long want) {
        checked++;
        if (got != want) {
            wrong++;
            System.out.println("\"" + sentence + "\": " + what + " answered " + got + ", due is " + want);
        }
    }

    private static long bit(boolean is) {
        return is ? 1 : 0;
    }

    /** The next ones outside of a range, and the ends of int. */
    private static int[] outside(int least, int most) {
        return new int[] {LEAST, least - 1, most + 1, MOST};
    }

    /** Outside of 0 to most, where NONE has a sense of its own. */
    private static int[] outsideNone(int most) {
        return new int[] {LEAST, -2, most + 1, MOST};
    }

    private static UntilHeConfesses made(House house) {
        UntilHeConfesses x = new UntilHeConfesses();
        house.tell(x);
        return x;
    }

    /** The call has the answer, and nothing is another than without it. */
    private static void still(String what, House house, long answer, Call call) {
        for (int v = 0; v < VIEWS.size(); v++) {
            UntilHeConfesses x = made(house);
            UntilHeConfesses y = made(house);
            due(what, call.of(y), answer);
            List<Long> without = new ArrayList<>();
            List<Long> with = new ArrayList<>();
            VIEWS.get(v).see(x, without);
            VIEWS.get(v).see(y, with);
            for (int k = 0; k < without.size(); k++) {
                if (!without.get(k).equals(with.get(k))) {
                    due(what + ", view " + v + ", answer " + k, with.get(k), without.get(k));
                    return;
                }
            }
        }
    }

    private static void seeHouse(UntilHeConfesses x, List<Long> seen) {
        for (int what = 0; what < 3; what++) {
            seen.add((long) x.is(what));
        }
        for (int what = 0; what < 10; what++) {
            seen.add((long) x.about(what));
        }
        seen.add((long) x.fault(0));
        seen.add((long) x.fault(1));
        for (int s = 0; s < 6; s++) {
            for (int what = 0; what < 6; what++) {
                seen.add((long) x.ofSuspect(s, what));
            }
        }
        for (int c = 0; c < 7; c++) {
            for (int what = 0; what < 4; what++) {
                seen.add((long) x.ofScene(c, what));
            }
        }
        int written = x.book(-1, 0);
        for (int i = 0; i < written; i++) {
            for (int what = 0; what < 3; what++) {
                seen.add((long) x.book(i, what));
            }
        }
    }

    private static void seeBelief(UntilHeConfesses x, List<Long> seen) {
        for (int s = 0; s < 6; s++) {
            seen.add(x.share(s, false));
            seen.add(x.share(s, true));
            seen.add((long) x.habit(60, s));
            for (int c = 0; c < 7; c++) {
                seen.add((long) x.odds(s, c, true));
                seen.add((long) x.odds(s, c, false));
            }
        }
        for (int n = 1; n < 10; n++) {
            seen.add(x.staysAway(n, 99, 9999, 0));
            seen.add(x.staysAway(n, 99, 9999, 1));
            seen.add(x.staysAway(n, 99, 9999, 2));
        }
        seen.add((long) x.orders());
        seen.add((long) x.sittings(false));
        seen.add((long) x.sittings(true));
        seen.add((long) x.whose());
        seen.add((long) x.foretold(60, 0));
        seen.add((long) x.foretold(60, 1));
        // what the tape holds is seen by reading it
        seen.add((long) x.text());
        seen.add((long) x.fault(0));
        seen.add((long) x.fault(1));
        seen.add((long) x.about(9));
        seen.add((long) x.whose());
    }

    private static void seeSteps(UntilHeConfesses x, List<Long> seen) {
        for (int k = 0; k < 31; k++) {
            seen.add((long) x.undo());
            for (int what = 0; what < 3; what++) {
                seen.add((long) x.is(what));
            }
            seen.add((long) x.book(-1, 0));
            seen.add((long) x.lasts());
            seen.add((long) x.worth());
            seen.add((long) x.lonely());
        }
    }

    private static void seeImage(UntilHeConfesses x, List<Long> seen) {
        seen.add((long) x.back());
        seeHouse(x, seen);
    }

    private static int read(UntilHeConfesses x, String text) {
        tape(x, text);
        return x.text();
    }

    private static void tape(UntilHeConfesses x, String text) {
        byte[] bytes = text.getBytes(StandardCharsets.ISO_8859_1);
        x.end(0);
        for (int i = 0; i < bytes.length; i += 20) {
            int[] w = new int[5];
            for (int k = 0; k < 20; k++) {
                w[k / 4] = w[k / 4] << 8 | (i + k < bytes.length ? bytes[i + k] & 255 : 'x');
            }
            x.feed(w[0], w[1], w[2], w[3], w[4]);
        }
        x.end(bytes.length);
    }

    private static void fault(String text, int what, int place) {
        UntilHeConfesses x = new UntilHeConfesses();
        String name = text.replace("\n", "\\n");
        due("text of " + name, read(x, text), what == 0 ? 0 : -1);
        due("FAULT of " + name, x.fault(0), what);
        due("place in " + name, x.fault(1), place);
        due("tape behind " + name, x.about(9), 0);
    }

    /** What one of NERVES 3 on row 2, place 7 pays by a SUM. */
    private static void pays(String sum, long want) {
        UntilHeConfesses x = new UntilHeConfesses();
        x.suspect(false, 3, 27);
        due("text of " + sum, read(x, "pays " + sum + ";"), 0);
        x.by(0);
        due(sum, x.ofSuspect(0, 5), want);
    }

    // ---------------------------------------------------------------- houses

    private static void empty(UntilHeConfesses x) {
        // as it is made
    }

    private static void three(UntilHeConfesses x) {
        x.suspect(true, 3, 5);
        x.suspect(false, 7, 6);
        x.suspect(false, 2, 16);
        x.scene(6, 3);
        x.scene(2, 2);
        x.scene(9, 5);
    }

    /** Some of everything, and an image of another time. */
    private static void some(UntilHeConfesses x) {
        three(x);
        read(x, "guilt heat - habit; pays 5 + nerves;");
        read(x, "night 1; cut 0;");
        x.by(0);
        x.weight(1, 4);
        x.risk(2, 3);
        x.observe(0, 0, true);
        x.ahead(0, 1);
        x.torn(1, 3, false);
        x.sign(0, 1, 2);
        x.night(2);
        x.image();
        x.cut(1);
        x.encore(2);
        x.away(2);
        x.seat(0, 20);
        x.night(1);
        x.encore(0);
        read(x, "cut 9;");
        tape(x, "scene 1 for 1; away 5;");
    }

    private static void sixAndSeven(UntilHeConfesses x) {
        for (int s = 0; s < 6; s++) {
            x.suspect(s == 2, s, s * 7);
        }
        for (int c = 0; c < 7; c++) {
            x.scene(9 - c, c + 1);
        }
    }

    /** As much of everything as there can be. */
    private static void full(UntilHeConfesses x) {
        sixAndSeven(x);
        read(x, "guilt 10 - habit;");
        read(x, "grief heat; pays 9999;");
        read(x, "");
        read(x, "cut 0;");
        x.by(1);
        for (int k = 0; k < 8; k++) {
            x.observe(k % 6, k % 7, k != 5);
            x.ahead(k % 3, 3 + k % 4);
            x.torn(k % 6, k % 4, k % 3 == 0);
            x.sign(k % 6, k % 7, 9);
        }
        for (int k = 0; k < 9; k++) {
            x.risk(k, k + 1);
        }
        x.night(35);
        x.cut(3);
        x.encore(4);
        for (int k = 0; k < 15; k++) {
            x.feed(0x63757420, 0x303b2020, 0x20202020, 0x20202020, 0x20202020 + k);
        }
    }

    private static void nights(UntilHeConfesses x, int n) {
        int left = n;
        while (left > 60) {
            left -= 60;
            x.night(60);
        }
        x.night(left);
    }

    private static void atTheLastNight(UntilHeConfesses x) {
        three(x);
        nights(x, 9999);
    }

    // ---------------------------------------------------------------- I

    private static void calls() {
        sentence("An object is used for at most 512 calls after it has been made");
        UntilHeConfesses x = new UntilHeConfesses();
        x.scene(1, 1);
        for (int k = 2; k <= 511; k++) {
            due("call " + k, x.cut(0), k % 2);
        }
        due("call 512", x.undo(), 29);
    }

    private static void suspects() {
        sentence("SUSPECTS 0 .. 5 (told one by one)");
        UntilHeConfesses x = new UntilHeConfesses();
        for (int s = 0; s < 6; s++) {
            due("suspect", x.suspect(false, s, s), s);
            due("how many", x.about(0), s + 1);
        }
        still("the 7th", BoundariesTest::sixAndSeven, -1, y -> y.suspect(false, 0, 39));
        sentence("A SUSPECT: NERVES 0 .. 9, on a SEAT 0 .. 39: NONE for others");
        for (int v : outside(0, 9)) {
            still("nerves " + v, BoundariesTest::some, -1, y -> y.suspect(true, v, 30));
        }
        for (int v : outside(0, 39)) {
            still("seat " + v, BoundariesTest::some, -1, y -> y.suspect(true, 0, v));
        }
        sentence("on a SEAT 0 .. 39 (ROW SEAT by 10, PLACE what is left)");
        UntilHeConfesses z = new UntilHeConfesses();
        due("nerves 9 on 39", z.suspect(true, 9, 39), 0);
        due("nerves 0 on 0", z.suspect(false, 0, 0), 1);
        due("nerves", z.ofSuspect(0, 1), 9);
        due("nerves", z.ofSuspect(1, 1), 0);
        z.scene(1, 1);
        read(z, "guilt place; grief row;");
        z.by(0);
        for (int seat = 1; seat < 39; seat++) {
            due("on " + seat, bit(z.seat(0, seat)), 1);
            due("place of " + seat, z.odds(0, 0, true), seat % 10);
            due("row of " + seat, z.odds(0, 0, false), seat / 10);
        }
        sentence("no two on one");
        still("another's", BoundariesTest::some, -1, y -> y.suspect(false, 0, 6));
        still("of one who stays away", BoundariesTest::some, -1, y -> y.suspect(false, 0, 16));
        due("one that is left", made(BoundariesTest::some).suspect(false, 0, 5), 3);
        sentence("HABIT 0 .. 9 (at first 0)");
        UntilHeConfesses h = made(BoundariesTest::three);
        for (int k = 0; k < 12; k++) {
            due("habit behind " + k, h.ofSuspect(1, 3), Math.min(k, 9));
            h.night(1);
        }
        sentence("COMES or stays away (at first COMES)");
        due("comes", made(BoundariesTest::three).ofSuspect(2, 4), 1);
        sentence("Of a SUSPECT: .. NONE for others");
        for (int v : outside(0, 2)) {
            still("suspect " + v, BoundariesTest::some, -1, y -> y.ofSuspect(v, 0));
        }
        for (int v : outside(0, 5)) {
            still("what " + v, BoundariesTest::some, -1, y -> y.ofSuspect(0, v));
        }
        due("of nobody", new UntilHeConfesses().ofSuspect(0, 0), -1);
    }

    private static void scenes() {
        sentence("SCENES 0 .. 6 (told one by one, given in that order)");
        UntilHeConfesses x = new UntilHeConfesses();
        for (int c = 0; c < 7; c++) {
            due("scene", x.scene(c, 9 - c), c);
            due("how many", x.about(1), c + 1);
        }
        still("the 8th", BoundariesTest::sixAndSeven, -1, y -> y.scene(1, 1));
        sentence("HEAT 0 .. 9");
        for (int v : outside(0, 9)) {
            still("heat " + v, BoundariesTest::some, -1, y -> y.scene(v, 1));
        }
        sentence("LENGTH 1 .. 9");
        for (int v : outside(1, 9)) {
            still("length " + v, BoundariesTest::some, -1, y -> y.scene(1, v));
        }
        UntilHeConfesses z = new UntilHeConfesses();
        due("heat 0, length 1", z.scene(0, 1), 0);
        due("heat 9, length 9", z.scene(9, 9), 1);
        due("heat", z.ofScene(0, 0), 0);
        due("heat", z.ofScene(1, 0), 9);
        due("length", z.ofScene(0, 1), 1);
        due("length", z.ofScene(1, 1), 9);
        sentence("CUT or not (at first not), ENCORED or not (at first not)");
        due("cut", z.ofScene(1, 2), 0);
        due("encored", z.ofScene(1, 3), 0);
        sentence("Of a SCENE: .. NONE for others");
        for (int v : outside(0, 2)) {
            still("scene " + v, BoundariesTest::some, -1, y -> y.ofScene(v, 0));
        }
        for (int v : outside(0, 3)) {
            still("what " + v, BoundariesTest::some, -1, y -> y.ofScene(0, v));
        }
    }

    private static void atFirst() {
        sentence("NIGHT, TAKINGS (at first 0 each). X: at first 113");
        UntilHeConfesses x = new UntilHeConfesses();
        due("NIGHT", x.is(0), 0);
        due("TAKINGS", x.is(1), 0);
        due("X", x.is(2), 113);
        for (int v : outside(0, 2)) {
            still("other " + v, BoundariesTest::some, -2, y -> y.is(v));
        }
        sentence("An empty house");
        int[] all = {0, 0, 0, -1, 0, 0, 0, 0, 0, 0};
        for (int what = 0; what < all.length; what++) {
            due("about " + what, x.about(what), all[what]);
        }
        due("the tape", x.end(0), 0);
        due("a cut", x.cut(0), -1);
        due("an encore", bit(x.encore(0)), 0);
        due("away", x.away(0), -1);
        due("seat", bit(x.seat(0, 0)), 0);
        due("a step back", x.undo(), -1);
        sentence("THE IMAGE is this");
        UntilHeConfesses y = made(BoundariesTest::some);
        UntilHeConfesses z = made(BoundariesTest::three);
        z.by(-1);
        due("back", z.back(), 0);
        for (int what = 0; what < all.length; what++) {
            due("about " + what, z.about(what), all[what]);
        }
        due("the later one", y.back(), 2);
    }

    private static void bookOfForty() {
        sentence("BOOK (the latest 40 signs): NIGHT, SCENE, SUSPECT");
        UntilHeConfesses x = new UntilHeConfesses();
        x.suspect(true, 0, 0);
        x.scene(0, 1);
        read(x, "guilt 10;");
        x.by(0);
        due("none", x.book(-1, 0), 0);
        due("no first", x.book(0, 0), -2);
        x.night(39);
        due("39", x.book(-1, 0), 39);
        due("no 40th", x.book(39, 0), -2);
        x.night(1);
        due("40", x.book(-1, 0), 40);
        due("the eldest", x.book(0, 0), 0);
        due("the latest", x.book(39, 0), 39);
        x.night(1);
        due("40 yet", x.book(-1, 0), 40);
        due("the eldest", x.book(0, 0), 1);
        due("the latest", x.book(39, 0), 40);
        due("no 41st", x.book(40, 0), -2);
        nights(x, 40 + 3);
        due("round about", x.book(0, 0), 44);
        due("round about", x.book(39, 0), 83);
        sentence("-2 if there is none such, and for others");
        due("none", made(BoundariesTest::three).book(0, 0), -2);
        UntilHeConfesses full = made(BoundariesTest::full);
        due("a full one", full.book(-1, 0), 40);
        for (int v : outsideNone(39)) {
            still("sign " + v, BoundariesTest::full, -2, y -> y.book(v, 0));
        }
        for (int v : outside(0, 2)) {
            still("what " + v, BoundariesTest::full, -2, y -> y.book(0, v));
            still("how many, whatever what", BoundariesTest::full, 40, y -> y.book(-1, v));
        }
    }

    private static void aNight() {
        sentence("SCENES by number that aren't CUT (ENCORED ones twice, one behind the other), in each SUSPECTS that COME");
        UntilHeConfesses x = new UntilHeConfesses();
        x.suspect(true, 0, 0);
        x.suspect(false, 0, 1);
        x.suspect(false, 0, 2);
        x.scene(1, 1);
        x.scene(1, 1);
        x.scene(1, 1);
        read(x, "guilt 10; grief 10;");
        x.by(0);
        x.encore(2);
        x.cut(1);
        x.away(1);
        due("signs", x.night(1), 6);
        int[] scenes = {0, 0, 2, 2, 2, 2};
        for (int i = 0; i < 6; i++) {
            due("scene", x.book(i, 1), scenes[i]);
            due("suspect", x.book(i, 2), i % 2 * 2);
            due("night", x.book(i, 0), 0);
        }
        sentence("Then TAKINGS are more by pays .. HABIT of each of these is one more");
        UntilHeConfesses y = new UntilHeConfesses();
        y.suspect(false, 0, 0);
        read(y, "pays habit + night * 100;");
        y.by(0);
        y.night(1);
        due("by the HABIT and NIGHT ahead", y.is(1), 0);
        y.night(1);
        due("by the HABIT and NIGHT ahead", y.is(1), 101);
        sentence("(Nobody needs to be told.)");
        UntilHeConfesses z = new UntilHeConfesses();
        due("no signs", z.night(1), 0);
        due("NIGHT", z.is(0), 1);
        z.scene(9, 1);
        due("no one", z.night(1), 0);
        due("no draw", z.is(2), 113);
        z.cut(0);
        z.suspect(true, 0, 0);
        due("nothing is given", z.night(1), 0);
        due("no draw", z.is(2), 113);
        due("but TAKINGS", z.is(1), 10);
        sentence("NIGHTS pass (1 .. 60) .. NONE for others");
        for (int v : outside(1, 60)) {
            still("night " + v, BoundariesTest::some, -1, w -> w.night(v));
        }
        UntilHeConfesses w = new UntilHeConfesses();
        w.night(1);
        w.night(60);
        due("61", w.is(0), 61);
    }

    private static void draws() {
        sentence("it shows a sign, if the draw is below its odds");
        for (int odds = 0; odds <= 10; odds++) {
            UntilHeConfesses x = new UntilHeConfesses();
            x.suspect(true, 0, 0);
            x.scene(0, 1);
            read(x, "guilt " + odds + ";");
            x.by(0);
            int v = 113;
            for (int k = 0; k < 50; k++) {
                due("draw " + v + " with odds " + odds, x.night(1), v % 10 < odds ? 1 : 0);
                v = (v * 347 + 229) % 30403;
                due("X", x.is(2), v);
            }
        }
        sentence("guilt of a GUILTY one, grief of another one");
        UntilHeConfesses y = made(BoundariesTest::three);
        read(y, "guilt 10; grief 0;");
        read(y, "guilt 0; grief 10;");
        y.by(0);
        due("the guilty one in each", y.night(1), 3);
        y.by(1);
        due("the others in each", y.night(1), 6);
    }

    private static void lastNight() {
        sentence("NIGHT is one more (at 9999 none can pass)");
        UntilHeConfesses x = new UntilHeConfesses();
        nights(x, 9998);
        due("9998", x.is(0), 9998);
        due("two more", x.night(2), -1);
        due("9998 yet", x.is(0), 9998);
        due("the last", x.night(1), 0);
        due("9999", x.is(0), 9999);
        sentence("NONE .. beyond 9999 (nothing is done then)");
        for (int n : new int[] {1, 2, 60}) {
            still("night " + n, BoundariesTest::atTheLastNight, -1, y -> y.night(n));
        }
        still("ten nights, nine can pass", y -> nights(y, 9990), -1, y -> y.night(10));
        UntilHeConfesses z = new UntilHeConfesses();
        nights(z, 9990);
        due("nine", z.night(9), 0);
        due("9999", z.is(0), 9999);
    }

    private static void byHand() {
        sentence("CUT: a SCENE is CUT, or isn't any more. NONE for others");
        UntilHeConfesses x = new UntilHeConfesses();
        x.scene(1, 1);
        due("the only one", x.cut(0), 0);
        due("not any more", x.cut(0), 1);
        for (int v : outside(0, 2)) {
            still("cut " + v, BoundariesTest::some, -1, y -> y.cut(v));
        }
        sentence("ENCORED: a SCENE that isn't (nor CUT) is. False, if it can't be, and for others");
        for (int v : outside(0, 2)) {
            still("encore " + v, BoundariesTest::some, 0, y -> bit(y.encore(v)));
        }
        still("encored", BoundariesTest::some, 0, y -> bit(y.encore(0)));
        still("cut", BoundariesTest::some, 0, y -> bit(y.encore(1)));
        sentence("SENT AWAY: a SUSPECT stays away, or COMES again. NONE for others");
        UntilHeConfesses z = new UntilHeConfesses();
        z.suspect(false, 0, 0);
        due("the only one", z.away(0), 0);
        due("again", z.away(0), 1);
        for (int v : outside(0, 2)) {
            still("away " + v, BoundariesTest::some, -1, y -> y.away(v));
        }
        sentence("SEATED: a SUSPECT is on another SEAT that is free. False, if it isn't free (its own isn't), and for others");
        still("its own", BoundariesTest::some, 0, y -> bit(y.seat(0, 20)));
        still("another's", BoundariesTest::some, 0, y -> bit(y.seat(0, 6)));
        still("of whom stays away", BoundariesTest::some, 0, y -> bit(y.seat(0, 16)));
        for (int v : outside(0, 2)) {
            still("suspect " + v, BoundariesTest::some, 0, y -> bit(y.seat(v, 30)));
        }
        for (int v : outside(0, 39)) {
            still("seat " + v, BoundariesTest::some, 0, y -> bit(y.seat(0, v)));
        }
        UntilHeConfesses s = made(BoundariesTest::three);
        due("on 0", bit(s.seat(0, 0)), 1);
        due("on 39", bit(s.seat(0, 39)), 1);
        due("where it was", bit(s.seat(0, 5)), 1);
        s.away(1);
        due("whom stays away", bit(s.seat(1, 7)), 1);
    }

    private static void steps() {
        sentence("the latest 30 can be taken back, the latest first");
        for (int n : new int[] {1, 29, 30, 31, 59, 60}) {
            UntilHeConfesses x = made(BoundariesTest::three);
            x.night(n);
            int can = Math.min(n, 30);
            due("can be taken back of " + n, x.about(4), can);
            for (int k = can - 1; k >= 0; k--) {
                due("yet", x.undo(), k);
                due("NIGHT", x.is(0), n - can + k);
            }
            due("none", x.undo(), -1);
            due("NIGHT stays", x.is(0), n - can);
        }
        sentence("NONE: there is none");
        still("an empty house", BoundariesTest::empty, -1, x -> x.undo());
        still("none was done", BoundariesTest::three, -1, x -> x.undo());
        sentence("STEPS: a NIGHT (each), CUT, ENCORED, SENT AWAY, SEATED, SEASONS");
        UntilHeConfesses x = made(BoundariesTest::three);
        x.cut(0);
        due("a cut", x.about(4), 1);
        x.encore(1);
        due("an encore", x.about(4), 2);
        x.away(0);
        due("away", x.about(4), 3);
        x.seat(0, 39);
        due("a seat", x.about(4), 4);
        x.night(7);
        due("nights", x.about(4), 11);
        x.seasons(3, 30);
        due("seasons", x.about(4), 12);
        sentence("CUTS, ENCORES, who COMES, SEATS, HABITS, NIGHT, TAKINGS, X, BOOK are as ahead of it");
        House[] houses = {BoundariesTest::three, BoundariesTest::some};
        for (House house : houses) {
            for (int scene = 0; scene < 3; scene++) {
                int c = scene;
                undone("a cut", house, y -> y.cut(c) >= 0);
                undone("an encore", house, y -> y.encore(c));
                undone("away", house, y -> y.away(c) >= 0);
                undone("a seat", house, y -> y.seat(c, 39));
            }
            undone("a night", house, y -> y.night(1) >= 0);
            undone("seasons", house, y -> y.seasons(9999, 30) >= 0);
        }
        undone("a night on a full book", y -> fullHouseOfFewSteps(y), y -> y.night(1) >= 0);
        undone("seasons on a full book", y -> fullHouseOfFewSteps(y), y -> y.seasons(0, 30) >= 0);
    }

    /** A deed that is done, and taken back, leaves nothing; one that is refused does so, too. */
    private static void undone(String what, House house, Deed deed) {
        still(what, house, 1, x -> deed.done(x) ? bit(x.undo() >= 0) : 1);
    }

    /** A full book, but less than 30 steps: else the eldest would be gone by one more. */
    private static void fullHouseOfFewSteps(UntilHeConfesses x) {
        sixAndSeven(x);
        read(x, "guilt 10; grief 10;");
        x.by(0);
        x.night(3);
    }

    private static void toldSince() {
        sentence("SCENES, SUSPECTS told since are as told");
        UntilHeConfesses x = made(BoundariesTest::three);
        x.night(1);
        x.suspect(true, 8, 30);
        x.scene(7, 8);
        x.night(3);
        x.away(3);
        x.seat(3, 31);
        x.cut(3);
        for (int k = 0; k < 7; k++) {
            x.undo();
        }
        int[] suspect = {1, 8, 30, 0, 1};
        for (int what = 0; what < suspect.length; what++) {
            due("of the suspect " + what, x.ofSuspect(3, what), suspect[what]);
        }
        int[] scene = {7, 8, 0, 0};
        for (int what = 0; what < scene.length; what++) {
            due("of the scene " + what, x.ofScene(3, what), scene[what]);
        }
        due("suspects", x.about(0), 4);
        due("scenes", x.about(1), 4);
        UntilHeConfesses e = made(BoundariesTest::three);
        e.scene(1, 1);
        e.cut(0);
        e.scene(1, 1);
        e.encore(4);
        e.encore(3);
        e.undo();
        due("encored ahead of it", e.ofScene(4, 3), 1);
        due("not encored ahead of it", e.ofScene(3, 3), 0);
        e.undo();
        due("as told", e.ofScene(4, 3), 0);
        sentence("if the SEAT of one told since isn't free then, two are on it");
        UntilHeConfesses y = made(BoundariesTest::three);
        y.seat(0, 30);
        due("told on the SEAT that was left", y.suspect(false, 0, 5), 3);
        due("taken back", y.undo(), 0);
        due("one", y.ofSuspect(0, 2), 5);
        due("the other", y.ofSuspect(3, 2), 5);
        due("not free", bit(y.seat(1, 5)), 0);
        due("nor for a new one", y.suspect(false, 0, 5), -1);
        due("one leaves it", bit(y.seat(0, 31)), 1);
        due("not free yet", bit(y.seat(0, 5)), 0);
        due("the other leaves it", bit(y.seat(3, 32)), 1);
        due("free", bit(y.seat(0, 5)), 1);
    }

    // ---------------------------------------------------------------- II

    private static void tapes() {
        sentence("NONE, and none come, if there would be more than 300");
        UntilHeConfesses x = new UntilHeConfesses();
        for (int k = 1; k <= 15; k++) {
            due("feed", x.feed(LEAST, -1, 0, 1, MOST), k * 20);
        }
        due("the 16th", x.feed(0, 0, 0, 0, 0), -1);
        for (int has : new int[] {281, 299, 300}) {
            still("has " + has, y -> {
                full(y);
                y.end(has);
            }, -1, y -> y.feed(0, 0, 0, 0, 0));
        }
        due("has 280", x.end(280), 280);
        due("just 300", x.feed(0, 0, 0, 0, 0), 300);
        sentence("NONE, and nothing is done, if it has not so many, or n is below 0");
        for (int v : outside(0, 300)) {
            still("end " + v, BoundariesTest::full, -1, y -> y.end(v));
        }
        still("more than it has", BoundariesTest::some, -1, y -> y.end(23));
        still("as many as it has", BoundariesTest::some, 22, y -> y.end(22));
        due("none", x.end(0), 0);
        due("one of none", x.end(1), -1);
        due("none of none", x.end(0), 0);
        sentence("TEXTS 0 .. 3");
        UntilHeConfesses z = new UntilHeConfesses();
        for (int t = 0; t < 4; t++) {
            due("text", read(z, "cut " + t + ";"), t);
            due("how many", z.about(2), t + 1);
            due("the tape", z.about(9), 0);
        }
        sentence("NONE: .. (the tape stays) there are 4");
        still("the 5th", y -> {
            full(y);
            y.end(6);
        }, -1, y -> y.text());
        still("the 5th with a FAULT", y -> {
            full(y);
            y.end(2);
        }, -1, y -> y.text());
        still("the 5th of no bytes", y -> {
            full(y);
            y.end(0);
        }, -1, y -> y.text());
        sentence("NONE: it has a FAULT");
        due("a fault", read(new UntilHeConfesses(), "cut"), -1);
        sentence("NONE for others, and ahead of any");
        for (int v : outside(0, 1)) {
            still("other " + v, BoundariesTest::some, -1, y -> y.fault(v));
        }
        due("ahead of any", new UntilHeConfesses().fault(0), -1);
        due("ahead of any", new UntilHeConfesses().fault(1), -1);
        sentence("0 its FAULT (0 without), 1 its place (NONE without)");
        UntilHeConfesses w = new UntilHeConfesses();
        read(w, "cut 9;");
        due("2", w.fault(0), 2);
        due("4", w.fault(1), 4);
        read(w, "");
        due("0", w.fault(0), 0);
        due("NONE", w.fault(1), -1);
    }

    private static void signsOfTexts() {
        sentence("TOKENS, blanks (32, 10) aside");
        for (int sign = 0; sign < 256; sign++) {
            char c = (char) sign;
            boolean blank = sign == 32 || sign == 10;
            boolean digit = c >= '0' && c <= '9';
            boolean ends = c == ';';
            String text = "cut 0" + c + ";";
            if (blank) {
                fault(text, 0, -1);
            } else if (digit && c > '6') {
                fault(text, 2, 4);
            } else if (digit) {
                fault(text, 0, -1);
            } else {
                fault(text, 1, ends ? 6 : 5);
            }
            boolean letter = c >= 'a' && c <= 'z' || c >= 'A' && c <= 'Z';
            // by itself ahead of a clause: a blank alone can stand there
            fault(c + "cut 0;", blank ? 0 : 1, blank ? -1 : 0);
            // behind a word a letter goes on with it, and what then is no word; a digit goes on with what is behind
            boolean stands = blank || c == '0';
            fault("cut" + c + "0;", stands ? 0 : digit ? 2 : 1, stands ? -1 : letter ? 0 : 3);
        }
        sentence("letters a .. z, A .. Z one behind the other (one TOKEN), digits likewise");
        fault("cu t 0;", 1, 0);
        fault("CUT 0;", 1, 0);
        fault("cuT 0;", 1, 0);
        fault("cut 0 0;", 1, 6);
        fault("cut0;night1;away\n0;", 0, -1);
        fault("guilt 1 1;", 1, 8);
        fault("guilt heatheat;", 1, 6);
        fault("guilt total2of1;", 0, -1);
        fault("guilttotal2of1;", 1, 0);
        sentence("of up to 300 bytes");
        fault("cut 0;" + " ".repeat(294), 0, -1);
        fault(" ".repeat(294) + "cut 0;", 0, -1);
        fault(" ".repeat(295) + "cut 0", 1, 300);
    }

    private static void numbersOfTexts() {
        sentence("2 a NUMBER that isn't one of those told (above 9999; ..)");
        number("guilt ", ";", 0, 9999);
        number("suspect ", " on 0;", 0, 9);
        number("suspect 0 on ", ";", 0, 39);
        number("murderer ", " on 0;", 0, 9);
        number("murderer 0 on ", ";", 0, 39);
        number("scene ", " for 1;", 0, 9);
        number("scene 0 for ", ";", 1, 9);
        number("cut ", ";", 0, 6);
        number("encore ", ";", 0, 6);
        number("away ", ";", 0, 5);
        number("seat ", " on 0;", 0, 5);
        number("seat 0 on ", ";", 0, 39);
        number("night ", ";", 1, 60);
        number("pays total ", " of 1;", 1, 9);
        fault("cut 0000000006;", 0, -1);
        fault("cut 0000000007;", 2, 4);
        // by int's wrap-around these were 0 or 1
        fault("cut 4294967296;", 2, 4);
        fault("night 4294967297;", 2, 6);
        fault("guilt 18446744073709551616;", 2, 6);
        sentence("at the TOKEN's first byte");
        fault("  guilt  10000 ;", 2, 9);
    }

    private static void number(String ahead, String behind, int least, int most) {
        fault(ahead + least + behind, 0, -1);
        fault(ahead + most + behind, 0, -1);
        fault(ahead + (most + 1) + behind, 2, ahead.length());
        fault(ahead + "10000" + behind, 2, ahead.length());
        if (least > 0) {
            fault(ahead + (least - 1) + behind, 2, ahead.length());
        }
        fault(ahead + "-1" + behind, ahead.equals("guilt ") ? 0 : 1, ahead.equals("guilt ") ? -1 : ahead.length());
    }

    private static void clausesOfTexts() {
        sentence("{CLAUSE}, 24 at most; 6 the 25th CLAUSE (at its first TOKEN)");
        String most = "cut 0;".repeat(24);
        fault(most, 0, -1);
        fault(most + " ", 0, -1);
        fault(most + " cut 0;", 6, 145);
        fault(most + "guilt 1;", 6, 144);
        fault("guilt 1;grief 1;pays 1;" + "cut 0;".repeat(21), 0, -1);
        fault("guilt 1;grief 1;pays 1;" + "cut 0;".repeat(22), 6, 23 + 126);
        fault("", 0, -1);
        for (String first : List.of("suspect", "murderer", "scene", "cut", "encore", "away", "seat", "night", "pays")) {
            fault(most + first, 6, 144);
        }
        sentence("guilt SUM ; or grief SUM ; or pays SUM ; (each once); 4 for the second time (at it)");
        for (String law : List.of("guilt", "grief", "pays")) {
            fault(law + " 1; " + law, 4, law.length() + 4);
            fault(law + " 1; cut 0; " + law + " 1;", 4, law.length() + 11);
        }
        sentence("5 a NAME that isn't of that CLAUSE, or i without a total (at it)");
        for (String name : List.of("night", "nerves", "habit", "row", "place")) {
            for (String law : List.of("guilt", "grief", "pays")) {
                fault(law + " " + name + ";", 0, -1);
            }
        }
        for (String name : List.of("heat", "length", "number")) {
            fault("guilt " + name + ";", 0, -1);
            fault("grief " + name + ";", 0, -1);
            fault("pays " + name + ";", 5, 5);
            fault("pays total 2 of " + name + ";", 5, 16);
        }
        for (String law : List.of("guilt", "grief", "pays")) {
            fault(law + " i;", 5, law.length() + 1);
            fault(law + " total 1 of i;", 0, -1);
            fault(law + " total 1 of (i)+i;", 5, law.length() + 16);
        }
    }

    private static void opened() {
        sentence("3 the 9th of ( total and - (of one ONE) that are open around one another (at it)");
        fault("guilt " + "(".repeat(8) + "1" + ")".repeat(8) + ";", 0, -1);
        fault("guilt " + "(".repeat(9) + "1" + ")".repeat(9) + ";", 3, 14);
        fault("guilt " + "-".repeat(8) + "1;", 0, -1);
        fault("guilt " + "-".repeat(9) + "1;", 3, 14);
        fault("guilt " + "(".repeat(7) + "total 2 of i" + ")".repeat(7) + ";", 0, -1);
        fault("guilt " + "(".repeat(8) + "total 2 of i" + ")".repeat(8) + ";", 3, 14);
        fault("guilt total 2 of " + "(".repeat(7) + "i" + ")".repeat(7) + ";", 0, -1);
        fault("guilt total 2 of " + "(".repeat(8) + "i" + ")".repeat(8) + ";", 3, 24);
        fault("guilt " + "(".repeat(8) + "1" + ")".repeat(8) + "*" + "(".repeat(8) + "1" + ")".repeat(8) + ";", 0, -1);
        fault("guilt " + "(-".repeat(4) + "1" + ")".repeat(4) + ";", 0, -1);
        // the innermost - ends with its ONE, so one more can be
        fault("guilt " + "(-".repeat(4) + "1--1" + ")".repeat(4) + ";", 0, -1);
        fault("guilt " + "(-".repeat(4) + "1---1" + ")".repeat(4) + ";", 3, 17);
        // a - between two PRODUCTS opens nothing
        fault("guilt " + "(".repeat(8) + "1-1-1" + ")".repeat(8) + ";", 0, -1);
        // a - of a ONE ends with it: then eight more can be
        fault("guilt " + "-".repeat(8) + "1*" + "-".repeat(8) + "1;", 0, -1);
        fault("guilt " + "-".repeat(8) + "1*" + "-".repeat(9) + "1;", 3, 24);
        sentence("none within another one; 7 a total within a total (at it)");
        fault("guilt total 2 of total 2 of 1;", 7, 17);
        fault("guilt total 2 of -total 2 of 1;", 7, 18);
        fault("guilt total 2 of (i+1)*total 2 of 1;", 0, -1);
        fault("guilt total 2 of (i*(1+total", 7, 23);
    }

    private static void leastFault() {
        sentence("of one the least");
        fault("10000", 1, 0);
        fault("cut 0 10000", 1, 6);
        fault("guilt ((((((((1(", 1, 15);
        fault("guilt ((((((((1 total", 1, 16);
        fault("guilt 1 i", 1, 8);
        fault("pays 1 heat", 1, 7);
        fault("guilt guilt", 1, 6);
        fault("guilt 1 guilt", 1, 8);
        fault("guilt total 2 of 1 total", 1, 19);
        fault("guilt total total", 1, 12);
        fault("guilt total 2 total", 1, 14);
        fault("cut 0;".repeat(24) + "heat", 1, 144);
        fault("cut 0;".repeat(24) + "10000", 1, 144);
        fault("cut 0;".repeat(24) + "?", 1, 144);
        fault("cut 0;".repeat(23) + "pays 1;pays", 4, 145);
        fault("guilt total 2 of -------total", 3, 24);
        sentence("the first as TOKENS are come to");
        fault("cut 7; cut", 2, 4);
        fault("cut cut 7;", 1, 4);
        fault("pays i + 10000;", 5, 5);
        fault("pays 10000 + i;", 2, 5);
        fault("guilt 1; guilt 10000; ?", 4, 9);
    }

    private static void endOfTexts() {
        sentence("of the end at the length");
        String[] parts = {"suspect", " 1", " on", " 2"};
        String text = "";
        for (String part : parts) {
            text += part;
            fault(text, 1, text.length());
            fault(text + "  ", 1, text.length() + 2);
        }
        fault("guilt", 1, 5);
        fault("guilt (", 1, 7);
        fault("guilt -", 1, 7);
        fault("guilt (1", 1, 8);
        fault("guilt 1 *", 1, 9);
        fault("guilt total", 1, 11);
        fault("guilt total 3", 1, 13);
        fault("guilt total 3 of", 1, 16);
        fault("guilt total 3 of i", 1, 18);
        fault("guilt " + "-1".repeat(147), 1, 300);
    }

    private static void sums() {
        sentence("From the left");
        pays("100-10-1", 89);
        pays("100/7/2", 7);
        pays("100/7*7", 98);
        pays("2+3*4-5", 9);
        pays("-3*-4", 12);
        pays("-3+5", 2);
        sentence("/ cuts towards 0, by 0 it is 0");
        pays("7/2", 3);
        pays("-7/2+10", 7);
        pays("7/-2+10", 7);
        pays("-7/-2", 3);
        pays("-1/2+1", 1);
        pays("7/0+5", 5);
        pays("0/0+5", 5);
        pays("-7/0+5", 5);
        pays("5*(1/(row-2))+4", 4);
        sentence("what is above 1000000 (below the same less) is that, at each step (of a total as well)");
        pays("1000*1000-100*9999", 100);
        pays("1000*1000+1-100*9999", 100);
        pays("1001*1000-100*9999", 100);
        pays("9999*9999-100*9999", 100);
        pays("-1000*1000+100*9999+200", 100);
        pays("-1000*1000-1+100*9999+200", 100);
        pays("-1001*1000+100*9999+200", 100);
        pays("-9999*9999+100*9999+200", 100);
        pays("1000*1000/-1-1+100*9999+200", 100);
        pays("-(1000*1000)-9999+100*9999+200", 100);
        pays("total 2 of (500*1000+1)-100*9999", 100);
        pays("total 2 of (500*1000)-100*9999", 100);
        pays("total 2 of (-500*1000-1)+100*9999+200", 100);
        pays("total 3 of (1000*1000*(1-i*(i-1))+50*(i/2))", 50);
        sentence("that ONE with i 0, 1, .. up to below NUMBER, all together");
        pays("total 1 of (i+7)", 7);
        pays("total 2 of (i+7)", 15);
        pays("total 9 of i", 36);
        pays("total 9 of 1", 9);
        pays("total 3 of i*10", 30);
        pays("total 3 of (i*i)+total 2 of i", 6);
        pays("9999-9999+total 9 of (i+nerves)", 63);
    }

    private static void boundsOfLaws() {
        sentence("guilt, grief (the odds of 10): 0 at least, 10 at most");
        String[] sums = {"-1", "0", "1", "9", "10", "11", "9999*9999", "-9999*9999"};
        int[] odds = {0, 0, 1, 9, 10, 10, 10, 0};
        for (int k = 0; k < sums.length; k++) {
            UntilHeConfesses x = made(BoundariesTest::three);
            read(x, "guilt " + sums[k] + ";");
            read(x, "grief " + sums[k] + ";");
            x.by(0);
            due("guilt " + sums[k], x.odds(0, 0, true), odds[k]);
            due("grief without", x.odds(0, 0, false), 1);
            x.by(1);
            due("grief " + sums[k], x.odds(0, 0, false), odds[k]);
            due("guilt without", x.odds(0, 0, true), 6);
        }
        sentence("without: guilt HEAT less HABIT by 2, cut");
        UntilHeConfesses y = new UntilHeConfesses();
        y.suspect(false, 0, 0);
        for (int heat = 0; heat < 7; heat++) {
            y.scene(heat, 1);
        }
        for (int habit = 0; habit < 10; habit++) {
            for (int heat = 0; heat < 7; heat++) {
                due("heat " + heat + ", habit " + habit, y.odds(0, heat, true), Math.max(0, heat - habit / 2));
            }
            y.night(1);
        }
        sentence("pays: 0 at least, 999 at most; without: 10 less ROW");
        pays("-1", 0);
        pays("0", 0);
        pays("1", 1);
        pays("998", 998);
        pays("999", 999);
        pays("1000", 999);
        pays("-9999*9999", 0);
        UntilHeConfesses z = new UntilHeConfesses();
        z.suspect(false, 0, 0);
        due("row 0", z.ofSuspect(0, 5), 10);
        z.seat(0, 9);
        due("row 0", z.ofSuspect(0, 5), 10);
        z.seat(0, 10);
        due("row 1", z.ofSuspect(0, 5), 9);
        z.seat(0, 39);
        due("row 3", z.ofSuspect(0, 5), 7);
        sentence("ODDS of guilt (guilt true), of grief (guilt false). NONE for others");
        for (int v : outside(0, 2)) {
            still("suspect " + v, BoundariesTest::some, -1, x -> x.odds(v, 0, true));
            still("scene " + v, BoundariesTest::some, -1, x -> x.odds(0, v, false));
        }
    }

    private static void ruled() {
        sentence("THE TEXT (told; at first none) rules");
        UntilHeConfesses x = made(BoundariesTest::three);
        due("at first", x.about(3), -1);
        due("none was read", bit(x.by(0)), 0);
        read(x, "guilt 3;");
        due("reading alone rules nothing", x.odds(0, 0, true), 6);
        due("by it", bit(x.by(0)), 1);
        due("ruled", x.odds(0, 0, true), 3);
        due("by none", bit(x.by(-1)), 1);
        due("ruled by none", x.odds(0, 0, true), 6);
        sentence("False for others");
        for (int v : outsideNone(1)) {
            still("by " + v, BoundariesTest::some, 0, y -> bit(y.by(v)));
        }
        for (int v : outsideNone(3)) {
            still("by " + v, BoundariesTest::full, 0, y -> bit(y.by(v)));
        }
        due("the last", bit(made(BoundariesTest::full).by(3)), 1);
    }

    private static void played() {
        sentence("PLAYED: -2 for others");
        for (int v : outside(0, 1)) {
            still("text " + v, BoundariesTest::some, -2, y -> y.played(v));
        }
        still("no text", BoundariesTest::three, -2, y -> y.played(0));
        sentence("its CLAUSES but laws, in their order, as by hand");
        UntilHeConfesses x = new UntilHeConfesses();
        read(x, "");
        read(x, "guilt 1; grief 1; pays 1;");
        due("no CLAUSE", x.played(0), -1);
        due("laws alone", x.played(1), -1);
        due("they don't rule", x.about(3), -1);
        due("no steps", x.about(4), 0);
        sentence("one that can't be ends it: its number among all CLAUSES (from 0); what was done stays");
        String[] cannot = {"suspect 0 on 5;", "murderer 0 on 5;", "cut 3;", "encore 3;", "encore 0; encore 0;", "cut 0; encore 0;",
            "away 3;", "seat 3 on 0;", "seat 0 on 5;", "seat 0 on 6;"};
        int[] at = {2, 2, 2, 2, 3, 3, 2, 2, 2, 2};
        for (int k = 0; k < cannot.length; k++) {
            UntilHeConfesses y = made(BoundariesTest::three);
            due("text", read(y, "pays 7; away 1; " + cannot[k] + " away 2;"), 0);
            due("played " + cannot[k], y.played(0), at[k]);
            due("what was done stays", y.ofSuspect(1, 4), 0);
            due("what is behind isn't done", y.ofSuspect(2, 4), 1);
            due("steps", y.about(4), at[k] - 1);
        }
        UntilHeConfesses full = new UntilHeConfesses();
        sixAndSeven(full);
        read(full, "suspect 0 on 39;");
        read(full, "scene 0 for 1;");
        due("the 7th suspect", full.played(0), 0);
        due("the 8th scene", full.played(1), 0);
        UntilHeConfesses last = new UntilHeConfesses();
        read(last, "cut 0;".repeat(23) + "cut 1;");
        last.scene(1, 1);
        due("the 24th clause", last.played(0), 23);
        sentence("(of so many NIGHTS those that can pass do)");
        UntilHeConfesses z = made(BoundariesTest::three);
        read(z, "away 1; night 60; away 2;");
        nights(z, 9939);
        due("just so many can pass", z.played(0), -1);
        due("the last night", z.is(0), 9999);
        due("away", z.ofSuspect(2, 4), 0);
        due("none can pass", z.played(0), 1);
        due("NIGHT", z.is(0), 9999);
        due("what was done stays", z.ofSuspect(1, 4), 1);
        due("what is behind isn't done", z.ofSuspect(2, 4), 0);
        UntilHeConfesses w = made(BoundariesTest::three);
        read(w, "night 60; away 2;");
        nights(w, 9998);
        due("one can pass", w.played(0), 0);
        due("it does", w.is(0), 9999);
        due("what is behind isn't done", w.ofSuspect(2, 4), 1);
        due("it is a step", w.undo(), 29);
        due("it is a step", w.is(0), 9998);
    }

    // ---------------------------------------------------------------- III

    private static void weights() {
        sentence("WEIGHTS (told, 0 .. 99; at first 1)");
        UntilHeConfesses x = made(BoundariesTest::three);
        due("at first", x.share(2, false), 1);
        due("at first", x.share(2, true), 3);
        due("99", bit(x.weight(2, 99)), 1);
        due("99 of 101", x.share(2, false), 99);
        due("99 of 101", x.share(2, true), 101);
        due("0", bit(x.weight(2, 0)), 1);
        due("0 of 2", x.share(2, false), 0);
        due("1 of 2", x.share(0, true), 2);
        sentence("A WEIGHT: true. False for others");
        for (int v : outside(0, 99)) {
            still("weight " + v, BoundariesTest::some, 0, y -> bit(y.weight(1, v)));
        }
        for (int v : outside(0, 2)) {
            still("suspect " + v, BoundariesTest::some, 0, y -> bit(y.weight(v, 5)));
        }
        sentence("SHARE: .. NONE for others");
        for (int v : outside(0, 2)) {
            still("share of " + v, BoundariesTest::some, -1, y -> y.share(v, false));
            still("share of " + v, BoundariesTest::some, -1, y -> y.share(v, true));
        }
        sentence("just one of all SUSPECTS is guilty");
        UntilHeConfesses z = new UntilHeConfesses();
        due("nobody", z.share(0, true), -1);
        z.suspect(false, 0, 0);
        due("one alone", z.share(0, false), 1);
        due("one alone", z.share(0, true), 1);
        sentence("in lowest terms (0 by 1, if it can't be any)");
        z.weight(0, 0);
        due("no weight", z.share(0, false), 0);
        due("no weight", z.share(0, true), 1);
        UntilHeConfesses w = made(BoundariesTest::three);
        read(w, "guilt 0; grief 0;");
        w.by(0);
        w.observe(1, 1, true);
        for (int s = 0; s < 3; s++) {
            due("what can't have been", w.share(s, false), 0);
            due("what can't have been", w.share(s, true), 1);
        }
        sentence("none (no SHARE is above 0)");
        due("what can't have been", w.guess(), -1);
        due("no weight", z.guess(), -1);
        due("nobody", new UntilHeConfesses().guess(), -1);
        z.weight(0, 1);
        due("one alone", z.guess(), 0);
    }

    private static void observed() {
        sentence("OBSERVED (8 at most; told)");
        UntilHeConfesses x = new UntilHeConfesses();
        sixAndSeven(x);
        read(x, "guilt 9; grief 9;");
        x.by(0);
        for (int k = 1; k <= 8; k++) {
            x.weight(k % 6, 99);
            due("observed", x.observe(5, 6, true), k);
        }
        due("9 to the 8th in all", x.share(0, false), 1);
        due("9 to the 8th in all", x.share(0, true), 6);
        due("two of six", x.both(4, 5, false), 1);
        due("two of six", x.both(4, 5, true), 15);
        still("the 9th", BoundariesTest::full, -2, y -> y.observe(0, 0, true));
        due("none any more", made(BoundariesTest::full).observe(-1, LEAST, true), 0);
        sentence("OBSERVED: how many there are (suspect NONE: none any more). -2 for others");
        UntilHeConfesses z = made(BoundariesTest::full);
        z.observe(-1, MOST, false);
        due("none", z.about(5), 0);
        due("the first again", z.observe(0, 0, true), 1);
        still("none of none", BoundariesTest::three, 0, y -> y.observe(-1, 0, true));
        for (int v : outsideNone(2)) {
            still("suspect " + v, BoundariesTest::some, -2, y -> y.observe(v, 0, true));
        }
        for (int v : outside(0, 2)) {
            still("scene " + v, BoundariesTest::some, -2, y -> y.observe(0, v, true));
        }
        sentence("that a SUSPECT showed a sign in a SCENE or didn't (odds as now)");
        UntilHeConfesses w = made(BoundariesTest::three);
        w.observe(0, 0, true);
        due("6 of 6 + 1 + 1", w.share(0, false), 3);
        due("6 of 6 + 1 + 1", w.share(0, true), 4);
        w.night(2);
        due("HABIT 2: 5 of 5 + 1 + 1", w.share(0, true), 7);
        w.observe(-1, 0, false);
        w.observe(0, 0, false);
        due("5 of 5 + 9 + 9", w.share(0, true), 23);
    }

    private static void telling() {
        sentence("TELLS MOST: .. of like ones the lowest; none");
        due("none", new UntilHeConfesses().tellsMost(), -1);
        UntilHeConfesses x = new UntilHeConfesses();
        x.suspect(false, 0, 0);
        due("no scene", x.tellsMost(), -1);
        x.scene(4, 1);
        x.scene(4, 1);
        due("of like ones", x.tellsMost(), 0);
        x.scene(5, 1);
        due("the most", x.tellsMost(), 2);
        x.cut(2);
        due("a cut one, too", x.tellsMost(), 2);
        read(x, "guilt 4-4*number; grief 2*number;");
        x.by(0);
        // apart by 4, 2, 4
        due("how far, not which way", x.tellsMost(), 0);
    }

    private static void twoMurderers() {
        sentence("TWO MURDERERS: .. NONE for others (unlike ones)");
        for (int v : outside(0, 2)) {
            still("one " + v, BoundariesTest::some, -1, y -> y.both(v, 0, false));
            still("other " + v, BoundariesTest::some, -1, y -> y.both(0, v, true));
        }
        for (int s = 0; s < 3; s++) {
            int v = s;
            still("like ones", BoundariesTest::some, -1, y -> y.both(v, v, false));
        }
        sentence("in lowest terms (0 by 1, if it can't be any)");
        UntilHeConfesses x = new UntilHeConfesses();
        x.suspect(false, 0, 0);
        due("one alone", x.both(0, 1, true), -1);
        x.suspect(false, 0, 1);
        due("just two", x.both(1, 0, false), 1);
        due("just two", x.both(1, 0, true), 1);
        x.weight(0, 0);
        due("it can't be any", x.both(0, 1, false), 0);
        due("it can't be any", x.both(0, 1, true), 1);
        x.suspect(false, 0, 2);
        due("not these", x.both(0, 1, false), 0);
        due("not these", x.both(0, 1, true), 1);
        due("the others", x.both(1, 2, true), 1);
        x.weight(0, 99);
        x.weight(1, 99);
        // 9801 99 99: 9801 by 9999 is 99 by 101
        due("weights times one another", x.both(0, 1, false), 99);
        due("weights times one another", x.both(0, 1, true), 101);
    }

    private static void foretold() {
        sentence("FORETOLD behind n NIGHTS (1 .. 60; ..). NONE for others");
        for (int v : outside(1, 60)) {
            still("n " + v, BoundariesTest::some, -1, y -> y.foretold(v, 0));
            still("n " + v, BoundariesTest::some, -1, y -> y.habit(v, 0));
        }
        for (int v : outside(0, 1)) {
            still("what " + v, BoundariesTest::some, -1, y -> y.foretold(1, v));
        }
        for (int v : outside(0, 2)) {
            still("suspect " + v, BoundariesTest::some, -1, y -> y.habit(1, v));
            still("suspect " + v, BoundariesTest::some, -1, y -> y.firstSign(v));
        }
        UntilHeConfesses x = new UntilHeConfesses();
        due("nobody", x.foretold(60, 0) + x.foretold(1, 1), 0);
        for (int n : new int[] {1, 2, 59, 60}) {
            UntilHeConfesses y = made(BoundariesTest::some);
            int signs = y.foretold(n, 0);
            int takings = y.foretold(n, 1);
            int habit = y.habit(n, 1);
            due("signs of " + n, y.night(n), signs);
            due("takings behind " + n, y.is(1), takings);
            due("habit behind " + n, y.ofSuspect(1, 3), habit);
        }
        sentence("those that can pass");
        UntilHeConfesses z = new UntilHeConfesses();
        z.suspect(true, 0, 0);
        z.scene(9, 1);
        read(z, "guilt 10;");
        z.by(0);
        nights(z, 9940);
        due("59 of 60", z.foretold(60, 0), 59);
        due("59", z.foretold(59, 0), 59);
        due("58", z.foretold(58, 0), 58);
        due("takings of 59", z.foretold(60, 1), 99990);
        z.night(58);
        due("the last", z.foretold(60, 0), 1);
        due("in it", z.firstSign(0), 1);
        z.night(1);
        due("none", z.foretold(60, 0), 0);
        due("takings as they are", z.foretold(60, 1), 99990);
        due("habit as it is", z.habit(60, 0), 9);
        due("no sign", z.firstSign(0), -1);
        sentence("FIRST SIGN: in how many NIGHTS (60 at most) there is one of a SUSPECT, as FORETOLD (from 1 on); none");
        for (int n : new int[] {1, 2, 59, 60, 61}) {
            UntilHeConfesses y = new UntilHeConfesses();
            y.suspect(false, 0, 0);
            y.suspect(true, 0, 1);
            y.scene(9, 1);
            read(y, "guilt night/" + (n == 1 ? 1 : n - 1) + "*10+" + (n == 1 ? 10 : 0) + "; grief 0;");
            y.by(0);
            due("the first in night " + n, y.firstSign(1), n > 60 ? -1 : n);
            due("none of another", y.firstSign(0), -1);
            due("the other shows it", y.foretold(60, 0), n > 60 ? 0 : 61 - n);
        }
    }

    private static void bestOrder() {
        sentence("BEST ORDER of a set of 1 to 5 SCENES: .. -2 for others");
        for (int v : new int[] {LEAST, -1, 0, 8, 9, 16, MOST}) {
            still("set " + v, BoundariesTest::some, -2, y -> y.order(0, v, -1));
        }
        for (int v : new int[] {63, 126, 127, 128, 129}) {
            still("set " + v, BoundariesTest::full, -2, y -> y.order(0, v, -1));
        }
        for (int v : outside(0, 2)) {
            still("suspect " + v, BoundariesTest::some, -2, y -> y.order(v, 7, -1));
        }
        for (int v : outsideNone(2)) {
            still("i " + v, BoundariesTest::some, -2, y -> y.order(0, 7, v));
        }
        for (int v : outsideNone(0)) {
            still("i " + v + " of one", BoundariesTest::some, -2, y -> y.order(0, 2, v));
        }
        UntilHeConfesses x = new UntilHeConfesses();
        sixAndSeven(x);
        due("five: heats 9 8 7 6 5", x.order(0, 31, -1), 35);
        for (int i = 0; i < 5; i++) {
            due("ascending", x.order(0, 31, i), 4 - i);
        }
        due("the last five: heats 7 6 5 4 3", x.order(5, 124, -1), 25);
        due("one alone", x.order(0, 64, -1), 3);
        due("one alone", x.order(0, 64, 0), 6);
        sentence("1 less (0 at least) in one behind the first whose HEAT isn't above that of the one ahead");
        UntilHeConfesses y = new UntilHeConfesses();
        y.suspect(false, 0, 0);
        for (int c = 0; c < 5; c++) {
            y.scene(4, 1);
        }
        due("like heats: 4 3 3 3 3", y.order(0, 31, -1), 16);
        for (int i = 0; i < 5; i++) {
            due("of like ones the lowest first, then the second ..", y.order(0, 31, i), i);
        }
        read(y, "guilt 1 - number/3;");
        read(y, "guilt 0;");
        read(y, "guilt number - 3;");
        y.by(0);
        due("1 0 0 0 0: two are 0 already", y.order(0, 31, -1), 1);
        y.by(1);
        due("0 at least", y.order(0, 31, -1), 0);
        due("all alike", y.order(0, 31, 4), 4);
        y.by(2);
        due("0 0 0 0 1: it comes first", y.order(0, 31, -1), 1);
        due("it comes first", y.order(0, 31, 0), 4);
        due("then the lowest", y.order(0, 31, 1), 0);
        due("then the highest left", y.order(0, 31, 4), 3);
    }

    private static void seen() {
        sentence("SEEN: .. NONE for others");
        for (int v : outside(0, 2)) {
            still("suspect " + v, BoundariesTest::some, -1, y -> y.unseen(v, false));
            still("suspect " + v, BoundariesTest::some, -1, y -> y.unseen(v, true));
        }
        sentence("shows no sign in a whole NIGHT (as now; whether it COMES or not), in lowest terms");
        UntilHeConfesses x = new UntilHeConfesses();
        x.suspect(false, 0, 0);
        due("nothing is given", x.unseen(0, false), 1);
        due("nothing is given", x.unseen(0, true), 1);
        for (int c = 0; c < 7; c++) {
            x.scene(9, 1);
            x.encore(c);
        }
        due("1 by 10 to the 14th", x.unseen(0, false), 1);
        due("1 by 10 to the 14th", x.unseen(0, true), 100000000000000L);
        x.away(0);
        due("away", x.unseen(0, true), 100000000000000L);
        read(x, "guilt 0;");
        read(x, "guilt number * 2;");
        x.by(0);
        due("never", x.unseen(0, false), 1);
        due("never", x.unseen(0, true), 1);
        x.by(1);
        due("surely in number 5", x.unseen(0, false), 0);
        due("surely: 0 by 1", x.unseen(0, true), 1);
    }

    private static void staysAway() {
        sentence("told by NIGHTS (RISKS 0 .. 10, at first 0). False for others");
        for (int v : outside(0, 8)) {
            still("night " + v, BoundariesTest::some, 0, y -> bit(y.risk(v, 5)));
        }
        for (int v : outside(0, 10)) {
            still("odds " + v, BoundariesTest::some, 0, y -> bit(y.risk(2, v)));
        }
        UntilHeConfesses x = new UntilHeConfesses();
        for (int n = 1; n < 10; n++) {
            due("at first", x.staysAway(n, 0, 9999, 1), 0);
        }
        for (int night = 0; night < 9; night++) {
            due("risk", bit(x.risk(night, 10)), 1);
        }
        sentence("STAYS AWAY: of n (1 .. 9); c (0 .. 99); p (0 .. 9999). NONE for others");
        for (int what = 0; what < 3; what++) {
            int w = what;
            for (int v : outside(1, 9)) {
                still("n " + v, BoundariesTest::some, -1, y -> y.staysAway(v, 1, 1, w));
            }
            for (int v : outside(0, 99)) {
                still("c " + v, BoundariesTest::some, -1, y -> y.staysAway(1, v, 1, w));
            }
            for (int v : outside(0, 9999)) {
                still("p " + v, BoundariesTest::some, -1, y -> y.staysAway(1, 1, v, w));
            }
        }
        for (int v : outside(0, 2)) {
            still("what " + v, BoundariesTest::some, -1, y -> y.staysAway(1, 1, 1, v));
        }
        due("all nine", x.staysAway(9, 99, 9999, 0), 511);
        due("99 each", x.staysAway(9, 99, 9999, 1), 891);
        due("99 each", x.staysAway(9, 99, 9999, 2), 1);
        due("dearer than the sign", x.staysAway(9, 99, 890, 0), 0);
        due("the sign", x.staysAway(9, 99, 890, 1), 890);
        due("of like ones the lowest", x.staysAway(9, 99, 891, 0), 0);
        due("all for nothing", x.staysAway(9, 0, 0, 0), 0);
        due("no cost of a night", x.staysAway(9, 0, 1, 0), 511);
        due("no cost", x.staysAway(9, 0, 1, 1), 0);
        due("no cost: 0 by 1", x.staysAway(9, 0, 1, 2), 1);
        due("of one", x.staysAway(1, 99, 9999, 0), 1);
        x.risk(3, 0);
        due("the one without a risk", x.staysAway(9, 0, 9999, 0), 511 - 8);
    }

    private static void toRun() {
        sentence("TO RUN: t (0 .. 9999), d (0 .. 999), q (0 .. 10), w (0 .. 9999). NONE for others");
        UntilHeConfesses x = new UntilHeConfesses();
        for (int what = 0; what < 3; what++) {
            for (int v : outside(0, 9999)) {
                due("t " + v, x.toRun(v, 1, 1, 1, what), -1);
                due("w " + v, x.toRun(1, 1, 1, v, what), -1);
            }
            for (int v : outside(0, 999)) {
                due("d " + v, x.toRun(1, v, 1, 1, what), -1);
            }
            for (int v : outside(0, 10)) {
                due("q " + v, x.toRun(1, 1, v, 1, what), -1);
            }
        }
        for (int v : outside(0, 2)) {
            due("what " + v, x.toRun(1, 1, 1, 1, v), -1);
        }
        sentence("the number of NIGHTS (0 .. 9) by which most is taken in the mean; of like ones the fewest");
        due("nothing at all", x.toRun(0, 0, 0, 0, 0), 0);
        due("0", x.toRun(0, 0, 0, 0, 1), 0);
        due("by 1", x.toRun(0, 0, 0, 0, 2), 1);
        due("no truth is told", x.toRun(0, 999, 0, 9999, 0), 0);
        due("no worth in it", x.toRun(0, 0, 10, 0, 0), 0);
        due("it ends in the first", x.toRun(9999, 0, 10, 9999, 0), 1);
        due("takings, too", x.toRun(9999, 0, 10, 9999, 1), 19998);
        due("nine", x.toRun(1, 0, 9, 0, 0), 9);
        due("1.11111111", x.toRun(1, 0, 9, 0, 1), 111111111);
        due("1.11111111", x.toRun(1, 0, 9, 0, 2), 100000000);
        due("nine for truth", x.toRun(0, 0, 1, 1, 0), 9);
        due("1 - 0.9 to the 9th", x.toRun(0, 0, 1, 1, 1), 612579511);
        due("1 - 0.9 to the 9th", x.toRun(0, 0, 1, 1, 2), 1000000000);
        sentence("d less each NIGHT (0 at least)");
        due("3 2 1 0 0 ..", x.toRun(3, 1, 0, 0, 0), 3);
        due("6", x.toRun(3, 1, 0, 0, 1), 6);
        due("3 1 0 0 ..", x.toRun(3, 2, 0, 0, 0), 2);
        due("4", x.toRun(3, 2, 0, 0, 1), 4);
        due("998 once", x.toRun(998, 999, 0, 0, 0), 1);
        due("999 once", x.toRun(999, 999, 0, 0, 0), 1);
        due("1000 and 1", x.toRun(1000, 999, 0, 0, 1), 1001);
    }

    private static void cuts() {
        sentence("CUTS: LENGTH m (0 .. 99) at most together. NONE for others");
        for (int v : outside(0, 99)) {
            still("m " + v, BoundariesTest::some, -1, y -> y.cuts(v));
        }
        UntilHeConfesses x = new UntilHeConfesses();
        due("no scenes", x.cuts(99), 0);
        for (int c = 0; c < 7; c++) {
            x.scene(9, 9);
        }
        due("all just fit", x.cuts(63), 127);
        due("99", x.cuts(99), 127);
        due("six: the lowest set", x.cuts(62), 63);
        due("one just fits", x.cuts(9), 1);
        due("none fits", x.cuts(8), 0);
        due("0", x.cuts(0), 0);
        sentence("of like ones the shortest, then the lowest set");
        UntilHeConfesses y = new UntilHeConfesses();
        y.scene(6, 5);
        y.scene(3, 2);
        y.scene(3, 2);
        y.scene(0, 1);
        y.scene(6, 4);
        due("no heat isn't given; 3 and 3 by 4 as 6 by 4", y.cuts(4), 6);
        due("of 6 in 5 the shortest", y.cuts(5), 6);
        due("9 in 6", y.cuts(6), 18);
        sentence("LASTS (ENCORES twice)");
        due("none", new UntilHeConfesses().lasts(), 0);
        for (int c = 0; c < 7; c++) {
            x.encore(c);
        }
        due("most", x.lasts(), 126);
        for (int c = 0; c < 7; c++) {
            x.cut(c);
        }
        due("all are cut", x.lasts(), 0);
    }

    private static void runningOrder() {
        sentence("RUNNING ORDER: .. (AHEAD: 8 twos at most; told)");
        due("no scenes", new UntilHeConfesses().orders(), 1);
        UntilHeConfesses x = new UntilHeConfesses();
        int all = 1;
        for (int c = 0; c < 7; c++) {
            x.scene(1, 1);
            all *= c + 1;
            due("each once", x.orders(), all);
        }
        for (int k = 0; k < 6; k++) {
            due("ahead", x.ahead(k, k + 1), k + 1);
        }
        due("one row", x.orders(), 1);
        due("the 7th", x.ahead(0, 6), 7);
        due("one row yet", x.orders(), 1);
        due("the 8th", x.ahead(6, 0), 8);
        due("none", x.orders(), 0);
        due("the 9th", x.ahead(1, 0), -2);
        still("the 9th", BoundariesTest::full, -2, y -> y.ahead(0, 1));
        due("none any more", x.ahead(-1, MOST), 0);
        due("all again", x.orders(), 5040);
        sentence("AHEAD: how many there are (one NONE: none any more). -2 for others (unlike ones)");
        still("none of none", BoundariesTest::three, 0, y -> y.ahead(-1, LEAST));
        for (int v : outsideNone(2)) {
            still("one " + v, BoundariesTest::some, -2, y -> y.ahead(v, 0));
        }
        for (int v : outside(0, 2)) {
            still("other " + v, BoundariesTest::some, -2, y -> y.ahead(0, v));
        }
        for (int c = 0; c < 3; c++) {
            int v = c;
            still("like ones", BoundariesTest::some, -2, y -> y.ahead(v, v));
        }
    }

    // ---------------------------------------------------------------- IV

    private static void facing() {
        sentence("FACE one another, if their ROWS differ by one at most, and PLACES by 2 at most (not the same one)");
        for (int a = 0; a < 40; a++) {
            UntilHeConfesses x = new UntilHeConfesses();
            x.suspect(false, 0, a);
            due("one alone", x.facing(), 0);
            due("one alone", x.lonely(), 1);
            int first = a == 0 ? 1 : 0;
            x.suspect(false, 0, first);
            for (int b = 0; b < 40; b++) {
                if (a != b) {
                    x.seat(1, b);
                    boolean faces = Math.abs(a / 10 - b / 10) <= 1 && Math.abs(a % 10 - b % 10) <= 2;
                    due(a + " and " + b, x.facing(), bit(faces));
                    due(a + " and " + b, x.lonely(), faces ? 0 : 3);
                }
            }
        }
        UntilHeConfesses y = new UntilHeConfesses();
        due("nobody", y.facing(), 0);
        due("nobody", y.lonely(), 0);
        sentence("(not the same one)");
        y.suspect(false, 0, 5);
        y.seat(0, 6);
        y.suspect(false, 0, 5);
        y.undo();
        due("two on one", y.facing(), 0);
        due("two on one", y.lonely(), 3);
    }

    private static void seating() {
        sentence("A SEATING of a set of 1 to 5 SUSPECTS: .. -2 for others");
        for (int v : new int[] {LEAST, -1, 0, 8, 9, 15, MOST}) {
            still("set " + v, BoundariesTest::some, -2, y -> y.seating(v, -1));
            still("set " + v, BoundariesTest::some, -2, y -> y.seating(v, 0));
        }
        for (int v : new int[] {63, 64, 127}) {
            still("set " + v, BoundariesTest::full, -2, y -> y.seating(v, -1));
        }
        for (int v : outsideNone(2)) {
            still("suspect " + v, BoundariesTest::some, -2, y -> y.seating(7, v));
        }
        sentence("others as they are: .. the SEAT of a SUSPECT");
        UntilHeConfesses x = new UntilHeConfesses();
        for (int s = 0; s < 6; s++) {
            x.suspect(false, 0, 35 - s * 7);
        }
        for (int set = 1; set < 63; set++) {
            List<Integer> seats = new ArrayList<>();
            for (int s = 0; s < 6; s++) {
                if ((set >> s & 1) == 1) {
                    seats.add(0, 35 - s * 7);
                }
            }
            // as the SEATS taken are the same in each order, so are the twos: the lowest SEATS come first
            due("how many", x.seating(set, -1), x.facing());
            int at = 0;
            for (int s = 0; s < 6; s++) {
                boolean is = (set >> s & 1) == 1;
                due("seat of " + s + " in " + set, x.seating(set, s), is ? seats.get(at) : -2);
                at += is ? 1 : 0;
            }
        }
    }

    private static void bestSeat() {
        sentence("BEST SEAT: .. NONE for others");
        for (int v : outside(0, 2)) {
            still("suspect " + v, BoundariesTest::some, -1, y -> y.bestSeat(v, false));
            still("suspect " + v, BoundariesTest::some, -1, y -> y.bestSeat(v, true));
        }
        sentence("of its own one and all free ones; of like ones the lowest");
        UntilHeConfesses x = new UntilHeConfesses();
        x.suspect(false, 0, 39);
        due("alone", x.bestSeat(0, false), 0);
        due("alone", x.bestSeat(0, true), 0);
        x.suspect(false, 0, 0);
        due("0 isn't free", x.bestSeat(0, false), 1);
        due("one", x.bestSeat(0, true), 1);
        x.suspect(false, 0, 3);
        x.suspect(false, 0, 2);
        x.seat(1, 4);
        // others on 2, 3, 4: from 1 2 and 3 are faced, from 2 .. 4 none is free, 5 faces 3 and 4, 12 faces all
        due("12", x.bestSeat(0, false), 12);
        due("three", x.bestSeat(0, true), 3);
        x.seat(0, 14);
        due("12 as well as its own", x.bestSeat(0, false), 12);
        x.suspect(false, 0, 12);
        x.suspect(false, 0, 13);
        x.seat(4, 30);
        x.seat(5, 31);
        due("its own or lower", x.bestSeat(0, false), 12);
        sentence("WORTH of a NIGHT: pays of all who COME together");
        due("nobody", new UntilHeConfesses().worth(), 0);
        due("six by 999", made(BoundariesTest::full).worth(), 5994);
    }

    private static void torn() {
        sentence("TORN PROGRAMMES (8 at most; told): .. in a ROW (0 .. 3) or not. -2 for others");
        for (int v : outsideNone(2)) {
            still("suspect " + v, BoundariesTest::some, -2, y -> y.torn(v, 0, true));
        }
        for (int v : outside(0, 3)) {
            still("row " + v, BoundariesTest::some, -2, y -> y.torn(0, v, true));
        }
        still("the 9th", BoundariesTest::full, -2, y -> y.torn(0, 0, true));
        still("none of none", BoundariesTest::three, 0, y -> y.torn(-1, LEAST, true));
        due("none any more", made(BoundariesTest::full).torn(-1, MOST, false), 0);
        UntilHeConfesses x = new UntilHeConfesses();
        for (int s = 0; s < 4; s++) {
            x.suspect(false, 0, s * 10 + 9);
        }
        for (int k = 0; k < 8; k++) {
            due("told", x.torn(k % 4, k % 4, true), k + 1);
        }
        due("each in its row", x.sittings(false), 1);
        due("all are sure", x.sittings(true), 15);
        sentence("all SUSPECTS (5 at most). NONE with 6 SUSPECTS");
        due("nobody: one", new UntilHeConfesses().sittings(false), 1);
        due("nobody is sure", new UntilHeConfesses().sittings(true), 0);
        UntilHeConfesses y = new UntilHeConfesses();
        int all = 1;
        for (int s = 0; s < 5; s++) {
            y.suspect(false, 0, s * 8);
            all *= s + 1;
            due("all", y.sittings(false), all);
            due("sure", y.sittings(true), s == 0 ? 1 : 0);
        }
        y.away(3);
        due("whom stays away, too", y.sittings(false), 120);
        y.suspect(false, 0, 39);
        due("six", y.sittings(false), -1);
        due("six", y.sittings(true), -1);
        sentence("SURE: .. (0, if there are none)");
        UntilHeConfesses z = new UntilHeConfesses();
        z.suspect(false, 0, 0);
        z.suspect(false, 0, 10);
        z.torn(0, 3, true);
        due("none", z.sittings(false), 0);
        due("none", z.sittings(true), 0);
        sentence("(one told twice counts for two)");
        UntilHeConfesses w = new UntilHeConfesses();
        w.suspect(false, 0, 5);
        w.seat(0, 30);
        w.suspect(false, 0, 5);
        w.undo();
        due("two on one seat: two orders", w.sittings(false), 2);
        due("both on the same seat in each", w.sittings(true), 3);
        w.torn(0, 0, true);
        due("both in row 0", w.sittings(false), 2);
        w.torn(1, 0, false);
        due("none", w.sittings(false), 0);
    }

    private static void claque() {
        sentence("A CLAQUE of n (1, 3, .. 17), each bought with h (0 .. 10) of 10. NONE for others (n odd alone)");
        UntilHeConfesses x = new UntilHeConfesses();
        for (int n : new int[] {LEAST, LEAST + 1, -17, -1, 0, 2, 4, 6, 8, 10, 12, 14, 16, 18, 19, MOST}) {
            due("n " + n, x.claque(n, 5, false), -1);
            due("n " + n, x.claque(n, 5, true), -1);
        }
        for (int h : outside(0, 10)) {
            due("h " + h, x.claque(3, h, false), -1);
            due("h " + h, x.claque(3, h, true), -1);
        }
        for (int n = 1; n <= 17; n += 2) {
            due("h 0", x.claque(n, 0, false), 0);
            due("h 0", x.claque(n, 0, true), 1);
            due("h 5", x.claque(n, 5, false), 1);
            due("h 5", x.claque(n, 5, true), 2);
            due("h 10", x.claque(n, 10, false), 1);
            due("h 10", x.claque(n, 10, true), 1);
            long up = x.claque(n, 1, false) * (power(n) / x.claque(n, 1, true));
            long other = x.claque(n, 9, false) * (power(n) / x.claque(n, 9, true));
            due("h 1 and 9 together are all", up + other, power(n));
        }
    }

    private static long power(int n) {
        return n == 0 ? 1 : 10 * power(n - 1);
    }

    private static void whoseLaw() {
        sentence("(told: SIGNS, 8 at most: a SUSPECT, a SCENE, odds of guilt 0 .. 10). -2 for others");
        for (int v : outsideNone(2)) {
            still("suspect " + v, BoundariesTest::some, -2, y -> y.sign(v, 0, 1));
        }
        for (int v : outside(0, 2)) {
            still("scene " + v, BoundariesTest::some, -2, y -> y.sign(0, v, 1));
        }
        for (int v : outside(0, 10)) {
            still("odds " + v, BoundariesTest::some, -2, y -> y.sign(0, 0, v));
        }
        still("the 9th", BoundariesTest::full, -2, y -> y.sign(0, 0, 1));
        still("none of none", BoundariesTest::three, 0, y -> y.sign(-1, LEAST, MOST));
        due("none any more", made(BoundariesTest::full).sign(-1, MOST, LEAST), 0);
        sentence("TEXTS (bits) by whose guilt (a TEXT without it: by what is so without) all odds are so");
        UntilHeConfesses x = made(BoundariesTest::three);
        due("no texts", x.whose(), 0);
        read(x, "guilt 0;");
        read(x, "guilt 10;");
        read(x, "grief 6;");
        read(x, "");
        due("no SIGNS: all", x.whose(), 15);
        due("0", x.sign(0, 0, 0), 1);
        due("the first", x.whose(), 1);
        for (int k = 2; k <= 8; k++) {
            due("told", x.sign(0, 0, 0), k);
        }
        due("the first", x.whose(), 1);
        due("none any more", x.sign(-1, 0, 0), 0);
        due("10", x.sign(2, 2, 10), 1);
        due("the second", x.whose(), 2);
        x.sign(-1, 0, 0);
        x.sign(0, 0, 6);
        due("those without it", x.whose(), 12);
        x.by(0);
        due("whatever rules", x.whose(), 12);
        x.sign(0, 1, 3);
        due("none", x.whose(), 0);
    }

    private static void byTheBook() {
        sentence("BY THE BOOK: .. -2 for others");
        for (int v : outsideNone(2)) {
            still("suspect " + v, BoundariesTest::some, -2, y -> y.signs(v, -1));
            still("scene " + v, BoundariesTest::some, -2, y -> y.signs(-1, v));
        }
        sentence("signs of a SUSPECT (of all: NONE), in a SCENE (in all: NONE)");
        UntilHeConfesses x = new UntilHeConfesses();
        due("of all in all", x.signs(-1, -1), 0);
        due("nobody", x.signs(0, -1), -2);
        due("nothing", x.signs(-1, 0), -2);
        UntilHeConfesses y = new UntilHeConfesses();
        sixAndSeven(y);
        read(y, "guilt 10; grief 10;");
        y.by(0);
        y.night(1);
        // 42 signs: the first two, in scene 0 of 0 and 1, are gone
        due("the latest 40", y.signs(-1, -1), 40);
        due("in scene 0", y.signs(-1, 0), 4);
        due("of 0", y.signs(0, -1), 6);
        due("of 0 in scene 0", y.signs(0, 0), 0);
        due("of 5 in scene 6", y.signs(5, 6), 1);
        sentence("CRYING: .. of like ones the lowest; none");
        due("2 to 5 have seven each", y.crying(), 2);
        due("nobody", x.crying(), -1);
        sentence("FALSE: those signs in the BOOK that were not of a GUILTY one");
        due("33 of 40", y.falseSigns(), 33);
        due("none", x.falseSigns(), 0);
    }

    private static void rows() {
        sentence("EMPTY: .. NONE for others (ROWS 0 .. 3)");
        for (int v : outside(0, 3)) {
            still("row " + v, BoundariesTest::some, -1, y -> y.empty(v));
        }
        UntilHeConfesses x = new UntilHeConfesses();
        for (int row = 0; row < 4; row++) {
            due("an empty house", x.empty(row), 10);
        }
        int[] seats = {0, 9, 10, 29, 30, 39};
        for (int seat : seats) {
            x.suspect(true, 0, seat);
        }
        int[] free = {8, 9, 9, 8};
        for (int row = 0; row < 4; row++) {
            due("row " + row, x.empty(row), free[row]);
        }
        sentence("or of whom stays away");
        x.away(5);
        due("one stays away", x.empty(3), 9);
        sentence("SUSPECTED: ROWS (bits) in which a GUILTY one sits that COMES");
        due("all rows", x.suspected(), 15);
        x.away(4);
        due("both stay away", x.suspected(), 7);
        due("nobody", new UntilHeConfesses().suspected(), 0);
        sentence("HOTTEST: .. none");
        UntilHeConfesses y = new UntilHeConfesses();
        due("no scenes", y.hottest(), -1);
        y.scene(0, 1);
        due("of heat 0", y.hottest(), 0);
        y.scene(9, 1);
        y.scene(9, 1);
        due("of like ones the lowest", y.hottest(), 1);
        y.cut(1);
        due("that isn't CUT", y.hottest(), 2);
        y.cut(2);
        y.cut(0);
        due("all are CUT", y.hottest(), -1);
    }

    // ---------------------------------------------------------------- V

    private static void seasons() {
        sentence("X is SEED (0 .. 9999) * 2 + 113; n times (1 .. 30). NONE for others");
        for (int v : outside(0, 9999)) {
            still("seed " + v, BoundariesTest::some, -1, y -> y.seasons(v, 1));
        }
        for (int v : outside(1, 30)) {
            still("n " + v, BoundariesTest::some, -1, y -> y.seasons(1, v));
        }
        for (int seed : new int[] {0, 9999}) {
            UntilHeConfesses x = new UntilHeConfesses();
            x.seasons(seed, 1);
            due("X of seed " + seed, x.is(2), ((seed * 2 + 113) * 347 + 229) % 30403);
            int v = seed * 2 + 113;
            int night = x.is(0);
            for (int k = 0; k < 30; k++) {
                night += v % 6 > 3 ? 1 : 0;
                v = (v * 347 + 229) % 30403;
            }
            due("NIGHT", x.seasons(seed, 30), night);
            due("X behind 30", x.is(2), v);
        }
        sentence("What there are none of isn't");
        for (int seed = 0; seed < 60; seed++) {
            UntilHeConfesses x = new UntilHeConfesses();
            int night = x.seasons(seed, 30);
            due("NIGHT", x.is(0), night);
            due("one step", x.about(4), 1);
            due("no scenes", x.about(1), 0);
            due("no suspects", x.about(0), 0);
        }
        sentence("It is one STEP");
        UntilHeConfesses y = made(BoundariesTest::three);
        for (int k = 1; k <= 31; k++) {
            y.seasons(k, 1);
            due("steps", y.about(4), Math.min(k, 30));
        }
        sentence("else a NIGHT (if it can pass)");
        UntilHeConfesses z = new UntilHeConfesses();
        nights(z, 9998);
        due("one of many", z.seasons(0, 30), 9999);
        int steps = z.about(4);
        due("none", z.seasons(0, 30), 9999);
        due("a step nevertheless", z.about(4), steps);
        due("X", z.is(2) != 113 ? 1 : 0, 1);
        sentence("1 it is ENCORED (if it can be); 3 that one is SEATED (if that is free)");
        UntilHeConfesses e = made(BoundariesTest::three);
        e.seasons(1, 1);
        due("115: scene 1 is ENCORED", e.ofScene(1, 3), 1);
        e.seasons(1, 1);
        due("115: it is so already", e.ofScene(1, 3), 1);
        due("a step nevertheless", e.about(4), 2);
        UntilHeConfesses s = made(BoundariesTest::three);
        s.seasons(2, 1);
        due("117: suspect 0 is on 37", s.ofSuspect(0, 2), 37);
        s.seasons(2, 1);
        due("117: on its own", s.ofSuspect(0, 2), 37);
        UntilHeConfesses c = made(BoundariesTest::three);
        c.cut(1);
        c.seasons(1, 1);
        due("115: a CUT one isn't ENCORED", c.ofScene(1, 3), 0);
        UntilHeConfesses f = made(BoundariesTest::three);
        f.seat(1, 37);
        f.seasons(2, 1);
        due("117: 37 isn't free", f.ofSuspect(0, 2), 5);
    }

    private static void images() {
        sentence("AN IMAGE: all as it is, but the tape and the latest FAULT. BACK: all is so again");
        House[] houses = {BoundariesTest::empty, BoundariesTest::three, BoundariesTest::some, BoundariesTest::full};
        for (House house : houses) {
            imaged(house);
        }
        sentence("but the tape and the latest FAULT");
        UntilHeConfesses x = made(BoundariesTest::three);
        x.image();
        read(x, "cut 9;");
        tape(x, "cut 0;");
        x.back();
        due("FAULT", x.fault(0), 2);
        due("its place", x.fault(1), 4);
        due("the tape", x.about(9), 6);
        due("its bytes", x.text(), 0);
        sentence("BACK to THE IMAGE (it stays): NIGHT");
        UntilHeConfesses y = made(BoundariesTest::three);
        y.night(3);
        due("NIGHT", y.image(), 3);
        y.night(1);
        due("NIGHT", y.back(), 3);
        y.night(2);
        due("it stays", y.back(), 3);
        y.night(4);
        due("another", y.image(), 7);
        y.undo();
        due("the later one", y.back(), 7);
    }

    /** An image, much else, and back: but for the tape and the image all must be as it was. */
    private static void imaged(House house) {
        for (View view : List.<View>of(BoundariesTest::seeHouse, BoundariesTest::seeBelief, BoundariesTest::seeSteps)) {
            UntilHeConfesses x = made(house);
            UntilHeConfesses y = made(house);
            y.image();
            y.suspect(true, 9, 39);
            y.suspect(true, 9, 38);
            y.scene(9, 9);
            y.weight(0, 77);
            y.risk(0, 9);
            y.observe(-1, 0, true);
            y.observe(0, 0, true);
            y.ahead(-1, 0);
            y.ahead(1, 0);
            y.torn(-1, 0, true);
            y.torn(0, 2, true);
            y.sign(-1, 0, 0);
            y.sign(0, 0, 3);
            y.by(-1);
            y.cut(0);
            y.away(0);
            y.seat(1, 37);
            y.seasons(5, 30);
            y.night(40);
            y.back();
            List<Long> was = new ArrayList<>();
            List<Long> is = new ArrayList<>();
            view.see(x, was);
            view.see(y, is);
            due("answers", is.size(), was.size());
            for (int k = 0; k < Math.min(is.size(), was.size()); k++) {
                due("answer " + k, is.get(k), was.get(k));
            }
        }
    }

    private static void asked() {
        sentence("0 SUSPECTS, .. 9 bytes of the tape. -2 for others");
        for (int v : outside(0, 9)) {
            still("about " + v, BoundariesTest::some, -2, y -> y.about(v));
        }
        int[] most = {6, 7, 4, 1, 30, 8, 8, 8, 8, 300};
        UntilHeConfesses x = made(BoundariesTest::full);
        for (int what = 0; what < most.length; what++) {
            due("about " + what + " when all is full", x.about(what), most[what]);
        }
    }

    private static void changesNothing() {
        sentence("All that follows changes nothing");
        House[] houses = {BoundariesTest::empty, BoundariesTest::three, BoundariesTest::some, BoundariesTest::full,
            BoundariesTest::atTheLastNight};
        for (int h = 0; h < houses.length; h++) {
            int steps = made(houses[h]).about(4);
            still("all that is asked", houses[h], steps, BoundariesTest::askAll);
        }
    }

    private static long askAll(UntilHeConfesses x) {
        for (int s = 0; s < 6; s++) {
            x.odds(s, s, true);
            x.share(s, true);
            x.both(s, 0, true);
            x.habit(60, s);
            x.firstSign(s);
            x.order(s, 7, -1);
            x.unseen(s, true);
            x.seating(7, s);
            x.bestSeat(s, true);
            x.signs(s, s);
        }
        x.tellsMost();
        x.guess();
        x.foretold(60, 0);
        x.foretold(60, 1);
        x.staysAway(9, 1, 1, 0);
        x.toRun(1, 1, 1, 1, 0);
        x.cuts(9);
        x.lasts();
        x.orders();
        x.facing();
        x.seating(31, -1);
        x.lonely();
        x.worth();
        x.sittings(true);
        x.claque(17, 3, true);
        x.whose();
        x.crying();
        x.empty(0);
        x.hottest();
        x.suspected();
        x.falseSigns();
        return x.about(4);
    }
}

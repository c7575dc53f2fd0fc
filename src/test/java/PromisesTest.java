import java.nio.charset.StandardCharsets;

/** By hand: each promise of the document with ordinary inputs, the edges it names, and wrong inputs. */
public final class PromisesTest {
    private static int wrong;
    private static int checked;
    private static int promise;

    public static void main(String[] args) {
        told();
        texts();
        faults();
        faultsOfNumbers();
        fullTapes();
        laws();
        byHand();
        encoredAndCut();
        nights();
        lastNight();
        played();
        seasons();
        stepsTakenBack();
        twoOnASeat();
        ofAll();
        book();
        fullBook();
        odds();
        shares();
        foretold();
        orders();
        unseen();
        staysAway();
        toRun();
        cutsAndLasts();
        ahead();
        facing();
        seatings();
        torn();
        claque();
        whose();
        written();
        houseAndScenes();
        image();
        about();
        System.out.println(checked + " checks, " + wrong + " wrong");
        if (wrong != 0) {
            System.exit(1);
        }
    }

    private static void of(int number) {
        promise = number;
    }

    private static void due(String what, long got, long want) {
        checked++;
        if (got != want) {
            wrong++;
            System.out.println("promise " + promise + ": " + what + " answered " + got + ", due is " + want);
        }
    }

    private static void due(String what, boolean got, boolean want) {
        due(what, got ? 1 : 0, want ? 1 : 0);
    }

    /** The bytes of a text on an empty tape. */
    private static void tape(UntilHeConfesses x, String text) {
        byte[] bytes = text.getBytes(StandardCharsets.ISO_8859_1);
        x.end(0);
        for (int i = 0; i < bytes.length; i += 20) {
            int[] w = new int[5];
            for (int k = 0; k < 20; k++) {
                w[k / 4] = w[k / 4] << 8 | (i + k < bytes.length ? bytes[i + k] & 255 : 0);
            }
            x.feed(w[0], w[1], w[2], w[3], w[4]);
        }
        x.end(bytes.length);
    }

    private static int read(UntilHeConfesses x, String text) {
        tape(x, text);
        return x.text();
    }

    private static void fault(String text, int what, int place) {
        UntilHeConfesses x = new UntilHeConfesses();
        due("text of '" + text + "'", read(x, text), what == 0 ? 0 : -1);
        due("fault(0) of '" + text + "'", x.fault(0), what);
        due("fault(1) of '" + text + "'", x.fault(1), place);
        due("tape behind '" + text + "'", x.about(9), 0);
    }

    /** The guilt of one on row 2 place 7 (nerves 3) in a scene (heat 6, length 4), numbered 1. */
    private static void law(String sum, int want) {
        UntilHeConfesses x = new UntilHeConfesses();
        x.suspect(false, 3, 27);
        x.scene(1, 1);
        x.scene(6, 4);
        due("text of " + sum, read(x, "guilt " + sum + ";"), 0);
        x.by(0);
        due(sum, x.odds(0, 1, true), want);
    }

    private static UntilHeConfesses house() {
        UntilHeConfesses x = new UntilHeConfesses();
        x.suspect(true, 3, 5);
        x.suspect(false, 7, 6);
        x.suspect(false, 2, 16);
        x.scene(6, 3);
        x.scene(2, 2);
        x.scene(9, 5);
        return x;
    }

    private static void told() {
        of(1);
        UntilHeConfesses x = new UntilHeConfesses();
        due("constant", UntilHeConfesses.NONE, -1);
        due("is(0)", x.is(0), 0);
        due("is(1)", x.is(1), 0);
        due("is(2)", x.is(2), 113);
        due("about(0)", x.about(0), 0);
        due("about(1)", x.about(1), 0);
        due("about(3)", x.about(3), -1);
        x.suspect(false, 1, 1);
        x.night(1);
        due("back()", x.back(), 0);
        due("nobody again", x.about(0), 0);
        of(2);
        due("first", x.suspect(true, 0, 0), 0);
        due("last seat, most nerves", x.suspect(false, 9, 39), 1);
        due("taken seat", x.suspect(false, 9, 39), -1);
        due("nerves 10", x.suspect(false, 10, 3), -1);
        due("nerves -1", x.suspect(false, -1, 3), -1);
        due("seat 40", x.suspect(false, 1, 40), -1);
        due("seat -1", x.suspect(false, 1, -1), -1);
        for (int s = 2; s < 6; s++) {
            due("next", x.suspect(false, 1, s), s);
        }
        due("the 7th", x.suspect(false, 1, 20), -1);
        due("guilty", x.ofSuspect(0, 0), 1);
        due("not guilty", x.ofSuspect(1, 0), 0);
        due("comes at first", x.ofSuspect(1, 4), 1);
        due("habit at first", x.ofSuspect(1, 3), 0);
        of(3);
        due("heat 10", x.scene(10, 1), -1);
        due("heat -1", x.scene(-1, 1), -1);
        due("length 0", x.scene(1, 0), -1);
        due("length 10", x.scene(1, 10), -1);
        for (int c = 0; c < 7; c++) {
            due("scene", x.scene(c == 0 ? 0 : 9, c == 0 ? 1 : 9), c);
        }
        due("the 8th", x.scene(1, 1), -1);
        due("not cut at first", x.ofScene(6, 2), 0);
        due("not encored at first", x.ofScene(6, 3), 0);
    }

    private static void texts() {
        of(4);
        UntilHeConfesses x = new UntilHeConfesses();
        for (int k = 1; k <= 15; k++) {
            due("feed", x.feed(0x63757420, 0x303b2020, 0x20202020, 0x20202020, 0x20202020), k * 20);
        }
        due("beyond 300", x.feed(1, 2, 3, 4, 5), -1);
        due("none came", x.about(9), 300);
        of(5);
        due("end(301)", x.end(301), -1);
        due("end(-1)", x.end(-1), -1);
        due("as it was", x.about(9), 300);
        due("end(300)", x.end(300), 300);
        due("end(281)", x.end(281), 281);
        due("no room for 20", x.feed(1, 2, 3, 4, 5), -1);
        due("end(280)", x.end(280), 280);
        due("room for 20", x.feed(0x20202020, 0x20202020, 0x20202020, 0x20202020, 0x2020203b), 300);
        of(7);
        due("ahead of any", x.fault(0), -1);
        due("ahead of any", x.fault(1), -1);
        of(6);
        due("300 bytes with a fault", x.text(), -1);
        due("empty then", x.about(9), 0);
        of(7);
        due("a second ;", x.fault(0), 1);
        due("at its place", x.fault(1), 299);
        due("other", x.fault(2), -1);
        due("other", x.fault(-1), -1);
        of(6);
        due("an empty text", x.text(), 0);
        due("the next is not told yet", x.by(1), false);
        due("blanks alone", read(x, " \n "), 1);
        due("clauses", read(x, "cut 0;cut 1;"), 2);
        due("bytes of the highest first", read(x, "encore 5;"), 3);
        of(7);
        due("without", x.fault(0), 0);
        due("without", x.fault(1), -1);
        of(6);
        tape(x, "cut 99;");
        due("there are 4", x.text(), -1);
        due("the tape stays", x.about(9), 7);
        due("nothing was read", x.fault(0), 0);
        of(8);
        due("by(4)", x.by(4), false);
        due("by(-2)", x.by(-2), false);
        due("by(3)", x.by(3), true);
        due("THE TEXT", x.about(3), 3);
        due("by(4)", x.by(4), false);
        due("THE TEXT stays", x.about(3), 3);
        due("by(NONE)", x.by(-1), true);
        due("none", x.about(3), -1);
    }

    private static void faults() {
        of(7);
        fault("", 0, -1);
        fault("cut 3;", 0, -1);
        fault("cut3;cut\n4 ;", 0, -1);
        fault("foo", 1, 0);
        fault("Cut 3;", 1, 0);
        fault("  cut", 1, 5);
        fault("cut  ", 1, 5);
        fault("cut 3", 1, 5);
        fault("cut 3 4;", 1, 6);
        fault("cut ;", 1, 4);
        fault("cut\t3;", 1, 3);
        fault("cut 3;%", 1, 6);
        fault(";", 1, 0);
        fault("3", 1, 0);
        fault("12345", 1, 0);
        fault("cuts 3;", 1, 0);
        fault("cutz 3;", 1, 0);
        fault("cuta 3;", 1, 0);
        fault("cutZ 3;", 1, 0);
        fault("cutA 3;", 1, 0);
        fault("cut[3;", 1, 3);
        fault("cut@3;", 1, 3);
        fault("cut{3;", 1, 3);
        fault("cut`3;", 1, 3);
        fault("cut 3:;", 1, 5);
        fault("cut 3/;", 1, 5);
        fault("suspect 1 for 2;", 1, 10);
        fault("scene 1 on 2;", 1, 8);
        fault("seat 1 2;", 1, 7);
        fault("cut heat;", 1, 4);
        fault("guilt ;", 1, 6);
        fault("guilt 1 2;", 1, 8);
        fault("guilt 1 12345;", 1, 8);
        fault("guilt (1;", 1, 8);
        fault("guilt 1);", 1, 7);
        fault("guilt 1+;", 1, 8);
        fault("guilt *1;", 1, 6);
        fault("guilt /1;", 1, 6);
        fault("guilt 6(2);", 1, 7);
        fault("guilt (1;);", 1, 8);
        fault("guilt (1(;", 1, 8);
        fault("guilt guilt;", 1, 6);
        fault("guilt on;", 1, 6);
        fault("guilt of;", 1, 6);
        fault("guilt total 3 heat;", 1, 14);
        fault("guilt total of 3;", 1, 12);
        fault("guilt total 3 of ;", 1, 17);
        fault("guilt \u00e9;", 1, 6);
        fault("guilt a;", 1, 6);
        fault("heat 1;", 1, 0);
        fault("total 1;", 1, 0);
        fault("guilt (((((((((1", 3, 14);
        fault("guilt ((((((((1))))))));", 0, -1);
        fault("guilt ---------1;", 3, 14);
        fault("guilt --------1;", 0, -1);
        fault("guilt (-(-(-(-(1))))+1);", 3, 14);
        fault("guilt ((((1))))+((((((((1))))))));", 0, -1);
        fault("guilt -1-1-1-1-1-1-1-1-1-1-1;", 0, -1);
        fault("guilt -------total 2 of i;", 0, -1);
        fault("guilt -------total 2 of -i;", 3, 24);
        fault("guilt --------total 2 of i;", 3, 14);
        fault("guilt total 2 of ------total 3 of 1;", 7, 23);
        fault("guilt total 2 of -------total 3 of 1;", 3, 24);
        fault("guilt 1; guilt 2;", 4, 9);
        fault("guilt 1; grief 1; pays 1; grief 1;", 4, 26);
        fault("guilt 1; grief 1; pays 1; pays", 4, 26);
        fault("pays heat;", 5, 5);
        fault("pays length;", 5, 5);
        fault("pays number;", 5, 5);
        fault("pays total 2 of number;", 5, 16);
        fault("pays i;", 5, 5);
        fault("grief i;", 5, 6);
        fault("grief total 2 of i * i;", 5, 21);
        fault("grief total 2 of (i * i);", 0, -1);
        fault("grief 1; guilt i;", 5, 15);
        fault("pays night+nerves+habit+row+place;", 0, -1);
        fault("grief night+nerves+habit+row+place+heat+length+number;", 0, -1);
        fault("guilt total 2 of total 2 of 1;", 7, 17);
        fault("guilt total 2 of (1+total 2 of 1);", 7, 20);
        fault("guilt total 2 of 1+total 2 of 1;", 0, -1);
        String many = "cut 0;cut 0;cut 0;cut 0;cut 0;cut 0;cut 0;cut 0;cut 0;cut 0;cut 0;cut 0;"
            + "cut 0;cut 0;cut 0;cut 0;cut 0;cut 0;cut 0;cut 0;cut 0;cut 0;cut 0;";
        fault(many + "cut 0;", 0, -1);
        fault(many + "cut 0;cut", 6, 144);
        fault(many + "cut 0;night", 6, 144);
        fault(many + "cut 0;heat", 1, 144);
        fault(many + "grief 1;grief", 4, 146);
        fault(many + "grief 1;pays", 6, 146);
    }

    private static void faultsOfNumbers() {
        of(7);
        fault("guilt 9999;", 0, -1);
        fault("guilt 10000;", 2, 6);
        fault("guilt 99999999999999999999;", 2, 6);
        fault("guilt 000000000000000000009;", 0, -1);
        fault("guilt total 0 of 1;", 2, 12);
        fault("guilt total 10 of 1;", 2, 12);
        fault("guilt total 9 of 1;", 0, -1);
        fault("suspect 9 on 39; murderer 0 on 0;", 0, -1);
        fault("suspect 10 on 9;", 2, 8);
        fault("suspect 1 on 40;", 2, 13);
        fault("murderer 10 on 9;", 2, 9);
        fault("murderer 1 on 40;", 2, 14);
        fault("scene 9 for 9; scene 0 for 1;", 0, -1);
        fault("scene 10 for 1;", 2, 6);
        fault("scene 1 for 0;", 2, 12);
        fault("scene 1 for 10;", 2, 12);
        fault("cut 6; encore 6; away 5;", 0, -1);
        fault("cut 7;", 2, 4);
        fault("encore 7;", 2, 7);
        fault("away 6;", 2, 5);
        fault("seat 5 on 39; seat 0 on 0;", 0, -1);
        fault("away 0; cut 0; encore 0;", 0, -1);
        fault("seat 6 on 0;", 2, 5);
        fault("seat 0 on 40;", 2, 10);
        fault("night 0;", 2, 6);
        fault("night 60; night 1;", 0, -1);
        fault("night 61;", 2, 6);
    }

    private static void fullTapes() {
        of(7);
        fault(";".repeat(300), 1, 0);
        fault("guilt " + "1+".repeat(147), 1, 300);
        fault("guilt " + "1+".repeat(146) + "1;", 0, -1);
        fault("guilt 1" + "0".repeat(293), 2, 6);
        fault("x".repeat(300), 1, 0);
        fault(" ".repeat(300), 0, -1);
        fault("guilt " + "(".repeat(8) + "1" + ")".repeat(8) + "+1".repeat(138) + ";", 0, -1);
        fault("guilt " + "total 9 of 1+".repeat(22) + "1;", 0, -1);
        of(21);
        law("1+".repeat(140) + "1-134", 7);
        UntilHeConfesses x = house();
        for (int k = 0; k < 20; k++) {
            due("a full tape with a fault at its end", read(x, "guilt " + "1+".repeat(147)), -1);
            due("1 + 9 of i, and no end", read(x, "guilt 1 + total 9 of i"), -1);
        }
        due("one without a fault", read(x, "grief 4; guilt 1+total 4 of i;"), 0);
        x.by(0);
        due("nothing is left of those", x.odds(0, 0, true), 7);
        due("nothing is left of those", x.odds(0, 0, false), 4);
        law("total 9 of (" + "i+".repeat(130) + "i)/1000", 4);
        law("0+1*(0+1*(0+1*(0+1*(0+1*(0+1*(0+1*(0+1*(2+1*3))))))))", 5);
    }

    private static void laws() {
        of(21);
        law("7", 7);
        law("2+3*2", 8);
        law("(2+1)*3", 9);
        law("10-3-2", 5);
        law("20/3/2", 3);
        law("7/2*2", 6);
        law("2*3+4/2-1", 7);
        law("-5+9", 4);
        law("-2*-3", 6);
        law("-7/2+9", 6);
        law("--4", 4);
        law("5/0+3", 3);
        law("0-1", 0);
        law("11", 10);
        law("nerves", 3);
        law("row", 2);
        law("place", 7);
        law("habit+night", 0);
        law("heat", 6);
        law("length", 4);
        law("number", 1);
        law("total 4 of i", 6);
        law("total 1 of i + 5", 5);
        law("total 3 of 2 * 1", 6);
        law("total 3 of (i*i+1)", 8);
        law("total 2 of 1+total 3 of i", 5);
        law("-total 3 of -i", 3);
        law("9999*9999/9999/50", 2);
        law("(9999*9999-1000*999)/200", 5);
        law("-9999*9999+1000*1000+5", 5);
        law("1000*1000+9999-1000*1000+4", 4);
        law("0-1000*1000-9999+1000*1000+4", 4);
        law("total 9 of (999*1000)-1000*999-995", 5);
        law("total 9 of (-999*1000)+1000*999+1005", 5);
        law("total 3 of (9999*9999*(1-i)+i*(2-i)*5)+3", 3);
    }

    private static void byHand() {
        UntilHeConfesses x = house();
        of(9);
        due("cut(3)", x.cut(3), -1);
        due("cut(-1)", x.cut(-1), -1);
        due("cut(1)", x.cut(1), 2);
        due("is cut", x.ofScene(1, 2), 1);
        due("cut(0)", x.cut(0), 1);
        due("not any more", x.cut(1), 2);
        due("isn't cut", x.ofScene(1, 2), 0);
        due("steps", x.about(4), 3);
        of(10);
        due("encore(3)", x.encore(3), false);
        due("encore(-1)", x.encore(-1), false);
        due("of a cut one", x.encore(0), false);
        due("encore(1)", x.encore(1), true);
        due("again", x.encore(1), false);
        due("steps", x.about(4), 4);
        of(11);
        due("away(3)", x.away(3), -1);
        due("away(-1)", x.away(-1), -1);
        due("away(2)", x.away(2), 2);
        due("away(0)", x.away(0), 1);
        due("comes again", x.away(2), 2);
        due("comes", x.ofSuspect(2, 4), 1);
        due("stays away", x.ofSuspect(0, 4), 0);
        due("steps", x.about(4), 7);
        of(12);
        due("its own", x.seat(0, 5), false);
        due("another's", x.seat(0, 6), false);
        due("seat 40", x.seat(0, 40), false);
        due("seat -1", x.seat(0, -1), false);
        due("nobody", x.seat(3, 1), false);
        due("nobody", x.seat(-1, 1), false);
        due("steps", x.about(4), 7);
        due("a free one", x.seat(0, 39), true);
        due("the seat", x.ofSuspect(0, 2), 39);
        due("the old one is free", x.seat(1, 5), true);
        due("steps", x.about(4), 9);
    }

    private static void encoredAndCut() {
        UntilHeConfesses x = house();
        of(10);
        x.encore(1);
        x.cut(1);
        due("encored yet", x.ofScene(1, 3), 1);
        due("not given", x.lasts(), 8);
        x.cut(1);
        due("given twice again", x.lasts(), 12);
        x.cut(1);
        of(13);
        x.night(1);
        due("none is encored any more", x.ofScene(1, 3), 0);
    }

    private static void nights() {
        UntilHeConfesses x = house();
        of(13);
        due("night(0)", x.night(0), -1);
        due("night(61)", x.night(61), -1);
        due("night(-1)", x.night(-1), -1);
        int[] drawn = new int[9];
        int v = 113;
        for (int k = 0; k < 9; k++) {
            drawn[k] = v % 10;
            v = (v * 347 + 229) % 30403;
        }
        int[] odds = {6, 1, 1, 2, 1, 1, 9, 1, 1};
        int signs = 0;
        for (int k = 0; k < 9; k++) {
            signs += drawn[k] < odds[k] ? 1 : 0;
        }
        due("one night", x.night(1), signs);
        due("X", x.is(2), v);
        due("takings", x.is(1), 29);
        due("habit", x.ofSuspect(2, 3), 1);
        due("nights", x.is(0), 1);
        x.away(2);
        x.night(12);
        due("habit of 9 at most", x.ofSuspect(0, 3), 9);
        due("not of whom stays away", x.ofSuspect(2, 3), 1);
        due("takings of two", x.is(1), 29 + 12 * 20);
        due("each is a step", x.about(4), 14);
        x.night(60);
        due("30 steps at most", x.about(4), 30);
        UntilHeConfesses y = new UntilHeConfesses();
        due("an empty house", y.night(60), 0);
        due("draws nothing", y.is(2), 113);
        due("its nights", y.is(0), 60);
        UntilHeConfesses z = new UntilHeConfesses();
        z.suspect(true, 0, 0);
        z.scene(9, 1);
        z.encore(0);
        z.away(0);
        z.night(1);
        due("away, no draw", z.is(2), 113);
        z.away(0);
        z.cut(0);
        z.night(1);
        due("cut, no draw", z.is(2), 113);
        z.cut(0);
        z.encore(0);
        int signsThen = z.night(1);
        // draws 3 and (113 * 347 + 229) mod 30403 = 9037 by 10: 7, odds 9 less 1 by 2: 9
        due("encored, two draws", z.is(2), (9037 * 347 + 229) % 30403);
        due("two signs", signsThen, 2);
        due("of the night", z.book(1, 0), 2);
    }

    private static void lastNight() {
        UntilHeConfesses x = new UntilHeConfesses();
        x.suspect(false, 0, 0);
        x.scene(1, 1);
        read(x, "pays 9999;");
        read(x, "cut 0; night 60; cut 0;");
        x.by(0);
        of(13);
        for (int k = 0; k < 166; k++) {
            x.night(60);
        }
        due("9960", x.is(0), 9960);
        due("takings", x.is(1), 9960 * 999);
        due("beyond 9999", x.night(40), -1);
        due("nothing is done", x.is(0), 9960);
        of(28);
        due("those that can pass", x.foretold(60, 1), 9999 * 999);
        due("39 of them", x.foretold(39, 1), 9999 * 999);
        due("38 of them", x.foretold(38, 1), 9998 * 999);
        of(14);
        due("those that can pass", x.played(1), 1);
        due("9999", x.is(0), 9999);
        due("what was done stays", x.ofScene(0, 2), 1);
        of(13);
        due("none can pass", x.night(1), -1);
        of(28);
        due("none can pass", x.foretold(1, 0), 0);
        due("takings stay", x.foretold(1, 1), 9999 * 999);
        of(29);
        due("habit", x.habit(60, 0), 9);
        of(30);
        due("none", x.firstSign(0), -1);
        of(29);
        due("habit stays", x.ofSuspect(0, 3), 9);
        of(15);
        due("none can pass", x.seasons(1, 30), 9999);
        of(16);
        due("undo", x.undo(), 29);
        due("undo", x.undo(), 28);
        due("a night back", x.is(0), 9998);
        read(x, "grief 10;");
        x.cut(0);
        x.by(2);
        due("a sign in the last night", x.night(1), 1);
        of(30);
        due("none behind it", x.firstSign(0), -1);
        // six who pay 999 each: 99999999 is come to in the 16684th night, so no house takes more
        of(19);
        UntilHeConfesses y = new UntilHeConfesses();
        for (int s = 0; s < 6; s++) {
            y.suspect(false, 0, s);
        }
        read(y, "pays 9999*9999;");
        y.by(0);
        for (int k = 0; k < 166; k++) {
            y.night(60);
        }
        y.night(39);
        due("most takings", y.is(1), 9999L * 999 * 6);
    }

    private static void played() {
        of(14);
        UntilHeConfesses x = new UntilHeConfesses();
        due("no text", x.played(0), -2);
        due("no text", x.played(-1), -2);
        read(x, "");
        due("no clauses", x.played(0), -1);
        read(x, "guilt 10; murderer 4 on 7; suspect 5 on 8; scene 3 for 4; night 2; cut 0; away 1; seat 0 on 9; grief 10;");
        due("all is done", x.played(1), -1);
        due("its laws are not told by that", x.about(3), -1);
        due("guilty", x.ofSuspect(0, 0), 1);
        due("not guilty", x.ofSuspect(1, 0), 0);
        due("nerves", x.ofSuspect(0, 1), 4);
        due("seat", x.ofSuspect(0, 2), 9);
        due("away", x.ofSuspect(1, 4), 0);
        due("heat", x.ofScene(0, 0), 3);
        due("length", x.ofScene(0, 1), 4);
        due("cut", x.ofScene(0, 2), 1);
        due("nights", x.is(0), 2);
        due("steps", x.about(4), 5);
        due("7 is free again, 8 isn't: clause 2", x.played(1), 2);
        due("what was done stays", x.about(0), 3);
        due("no text", x.played(2), -2);
        read(x, "pays 1; encore 0;");
        due("a cut one", x.played(2), 1);
        read(x, "encore 5;");
        due("no such scene", x.played(3), 0);
        UntilHeConfesses y = house();
        read(y, "encore 0; encore 0;");
        due("encored", y.played(0), 1);
        read(y, "seat 0 on 5;");
        due("its own", y.played(1), 0);
        read(y, "away 3;");
        due("no such one", y.played(2), 0);
        read(y, "scene 1 for 1;scene 1 for 1;scene 1 for 1;scene 1 for 1;scene 1 for 1;");
        due("the 8th", y.played(3), 4);
        UntilHeConfesses z = house();
        read(z, "murderer 1 on 39; murderer 1 on 5;");
        due("5 isn't free", z.played(0), 1);
        due("guilty", z.ofSuspect(3, 0), 1);
        due("39 isn't free any more", z.played(0), 0);
    }

    private static void seasons() {
        of(15);
        UntilHeConfesses x = house();
        due("seed -1", x.seasons(-1, 1), -1);
        due("seed 10000", x.seasons(10000, 1), -1);
        due("n 0", x.seasons(1, 0), -1);
        due("n 31", x.seasons(1, 31), -1);
        due("no step", x.about(4), 0);
        // X 113 + 2 * seed: x mod 6 is 0 of none, as X is odd at first: 1, 3 or 5
        due("x 113: mod 6 is 5", x.seasons(0, 1), 1);
        due("one step", x.about(4), 1);
        x.undo();
        due("back", x.is(0), 0);
        due("x 115 mod 6 is 1", x.seasons(1, 1), 0);
        due("encored: 115 mod 3 is 1", x.ofScene(1, 3), 1);
        due("X anew", x.is(2), (115 * 347 + 229) % 30403);
        x.undo();
        due("x 117 mod 6 is 3", x.seasons(2, 1), 0);
        due("117 mod 3 is 0, on 117 mod 40 is 37", x.ofSuspect(0, 2), 37);
        x.undo();
        // 121 mod 6 is 1, 121 mod 3 too; (121 * 347 + 229) mod 30403 = 11813 is 5 by 6
        due("encored, then a night", x.seasons(4, 2), 1);
        due("no encore is left", x.ofScene(1, 3), 0);
        int u = 121;
        for (int k = 0; k < 2 + 4 * 3; k++) {
            u = (u * 347 + 229) % 30403;
        }
        due("12 draws behind", x.is(2), u);
        UntilHeConfesses y = house();
        int v = 2 * 9999 + 113;
        int nights = 0;
        int cutOnes = 0;
        int awayOnes = 0;
        for (int k = 0; k < 30; k++) {
            nights += v % 6 > 3 ? 1 : 0;
            cutOnes ^= v % 6 == 0 ? 1 << v % 3 : 0;
            awayOnes ^= v % 6 == 2 ? 1 << v % 3 : 0;
            // as soon as there are NIGHTS, draws of theirs come between: only without SCENES there are none
            v = (v * 347 + 229) % 30403;
        }
        UntilHeConfesses bare = new UntilHeConfesses();
        bare.suspect(true, 3, 5);
        bare.suspect(false, 7, 6);
        bare.suspect(false, 2, 16);
        due("without scenes", bare.seasons(9999, 30), nights);
        for (int s = 0; s < 3; s++) {
            due("who comes", bare.ofSuspect(s, 4), 1 - (awayOnes >> s & 1));
        }
        UntilHeConfesses still = new UntilHeConfesses();
        still.scene(6, 3);
        still.scene(2, 2);
        still.scene(9, 5);
        due("without suspects", still.seasons(9999, 30), nights);
        for (int c = 0; c < 3; c++) {
            due("what is cut", still.ofScene(c, 2), cutOnes >> c & 1);
        }
        due("many", y.seasons(9999, 30) >= 0, true);
        due("one step of 30", y.about(4), 1);
        due("taken back", y.undo(), 0);
        due("all as ahead", y.is(2), 113);
        due("nothing cut", y.ofScene(0, 2) + y.ofScene(1, 2) + y.ofScene(2, 2), 0);
        ofOne();
        UntilHeConfesses z = new UntilHeConfesses();
        int passed = z.seasons(7, 30);
        int w = 127;
        int due = 0;
        for (int k = 0; k < 30; k++) {
            due += w % 6 > 3 ? 1 : 0;
            w = (w * 347 + 229) % 30403;
        }
        due("an empty house", passed, due);
        due("its X", z.is(2), w);
    }

    /** SEASONS of one SCENE and one SUSPECT, who shows no sign whatever is drawn. */
    private static void ofOne() {
        for (int seed = 0; seed < 40; seed++) {
            UntilHeConfesses x = new UntilHeConfesses();
            x.suspect(true, 0, 0);
            x.scene(5, 1);
            read(x, "guilt 0;");
            x.by(0);
            due("seasons", x.seasons(seed, 30) >= 0, true);
            int v = seed * 2 + 113;
            int seat = 0;
            int habit = 0;
            boolean cut = false;
            boolean encored = false;
            boolean comes = true;
            for (int k = 0; k < 30; k++) {
                int drawn = v;
                v = (v * 347 + 229) % 30403;
                cut ^= drawn % 6 == 0;
                encored |= drawn % 6 == 1 && !cut;
                comes ^= drawn % 6 == 2;
                seat = drawn % 6 == 3 ? drawn % 40 : seat;
                if (drawn % 6 > 3) {
                    for (int i = cut || !comes ? 0 : encored ? 2 : 1; i > 0; i--) {
                        v = (v * 347 + 229) % 30403;
                    }
                    habit = Math.min(9, habit + (comes ? 1 : 0));
                    encored = false;
                }
            }
            due("X of seed " + seed, x.is(2), v);
            due("cut by seed " + seed, x.ofScene(0, 2) == 1, cut);
            due("encored by seed " + seed, x.ofScene(0, 3) == 1, encored);
            due("comes by seed " + seed, x.ofSuspect(0, 4) == 1, comes);
            due("habit by seed " + seed, x.ofSuspect(0, 3), habit);
            due("seat by seed " + seed, x.ofSuspect(0, 2), seat);
            due("no signs", x.book(-1, 0), 0);
        }
    }

    private static void stepsTakenBack() {
        of(16);
        UntilHeConfesses x = house();
        due("none", x.undo(), -1);
        x.cut(0);
        x.encore(1);
        x.away(2);
        x.seat(1, 30);
        x.night(1);
        int after = x.is(2);
        x.seasons(5, 20);
        due("six", x.about(4), 6);
        due("seasons", x.undo(), 5);
        due("X", x.is(2), after);
        due("seat", x.ofSuspect(1, 2), 30);
        due("encores ended", x.ofScene(1, 3), 0);
        due("the night", x.undo(), 4);
        due("NIGHT", x.is(0), 0);
        due("TAKINGS", x.is(1), 0);
        due("X", x.is(2), 113);
        due("BOOK", x.book(-1, 0), 0);
        due("HABIT", x.ofSuspect(0, 3), 0);
        due("encored", x.ofScene(1, 3), 1);
        due("the seat", x.undo(), 3);
        due("SEAT", x.ofSuspect(1, 2), 6);
        due("away", x.undo(), 2);
        due("COMES", x.ofSuspect(2, 4), 1);
        due("the encore", x.undo(), 1);
        due("not encored", x.ofScene(1, 3), 0);
        due("the cut", x.undo(), 0);
        due("not cut", x.ofScene(0, 2), 0);
        due("none", x.undo(), -1);
        // told since: as told
        x.cut(0);
        x.suspect(false, 1, 20);
        x.scene(4, 4);
        x.night(2);
        x.away(3);
        x.seat(3, 21);
        x.cut(3);
        for (int k = 0; k < 5; k++) {
            x.undo();
        }
        due("habit", x.ofSuspect(3, 3), 0);
        due("seat", x.ofSuspect(3, 2), 20);
        due("comes", x.ofSuspect(3, 4), 1);
        due("not cut", x.ofScene(3, 2), 0);
        due("the last one", x.undo(), 0);
        due("told yet", x.about(0), 4);
        due("told yet", x.about(1), 4);
        due("seat", x.ofSuspect(3, 2), 20);
        // the latest 30
        UntilHeConfesses y = house();
        for (int k = 0; k < 33; k++) {
            y.cut(k % 3);
        }
        due("30", y.about(4), 30);
        for (int k = 29; k >= 0; k--) {
            due("back", y.undo(), k);
        }
        due("none", y.undo(), -1);
        due("the first three stay", y.ofScene(0, 2) + y.ofScene(1, 2) + y.ofScene(2, 2), 3);
        y.weight(0, 7);
        y.night(1);
        y.undo();
        due("the 30 cut scenes' house", y.is(0), 0);
    }

    private static void twoOnASeat() {
        UntilHeConfesses x = new UntilHeConfesses();
        x.suspect(true, 0, 5);
        x.suspect(false, 0, 7);
        x.seat(0, 20);
        due("told on the seat left", x.suspect(false, 0, 5), 2);
        of(16);
        due("undo", x.undo(), 0);
        due("two are on it", x.ofSuspect(0, 2), 5);
        due("two are on it", x.ofSuspect(2, 2), 5);
        of(40);
        due("each faces 1, not one another", x.facing(), 2);
        of(42);
        due("nobody is lonely", x.lonely(), 0);
        of(52);
        due("one seat for both", x.empty(0), 8);
        x.away(0);
        due("the other one comes", x.empty(0), 8);
        x.away(2);
        due("both stay away", x.empty(0), 9);
        x.away(0);
        due("the first one comes", x.empty(0), 8);
        x.undo();
        x.undo();
        x.undo();
        due("both come", x.empty(0), 8);
        of(43);
        due("own seat is the lowest of 1", x.bestSeat(1, true), 2);
        due("5 is taken, 3 faces both of 5", x.bestSeat(1, false), 3);
        due("facing 1 from the lowest", x.bestSeat(0, false), 6);
        of(41);
        due("most", x.seating(7, -1), 2);
        due("the lowest on the lowest", x.seating(7, 0), 5);
        due("then the next", x.seating(7, 1), 5);
        due("then the last", x.seating(7, 2), 7);
        of(46);
        due("one told twice counts for two", x.sittings(false), 6);
        due("all on row 0, nobody sure", x.sittings(true), 0);
        oneOfTwoElsewhere();
        of(12);
        due("not free", x.seat(1, 5), false);
        due("its own", x.seat(2, 5), false);
        due("away from it", x.seat(2, 6), true);
        due("undo", x.undo(), 0);
        due("two again", x.ofSuspect(2, 2), 5);
        of(2);
        due("not free", x.suspect(false, 0, 5), -1);
    }

    /** Who sits on row 0 of a seat of two there and one on row 3 is on the same seat, whichever of the two it is. */
    private static void oneOfTwoElsewhere() {
        UntilHeConfesses x = new UntilHeConfesses();
        x.suspect(true, 0, 5);
        x.suspect(false, 0, 35);
        x.seat(0, 20);
        x.suspect(false, 0, 5);
        x.undo();
        x.torn(0, 0, true);
        due("0 on one of two, then two ways each", x.sittings(false), 4);
        due("0 alone is sure", x.sittings(true), 1);
        x.torn(1, 3, false);
        due("0 and 1 on the two", x.sittings(false), 2);
        due("all are sure", x.sittings(true), 7);
    }

    private static void ofAll() {
        UntilHeConfesses x = house();
        x.seat(1, 39);
        of(17);
        due("guilty", x.ofSuspect(0, 0), 1);
        due("nerves", x.ofSuspect(1, 1), 7);
        due("seat", x.ofSuspect(1, 2), 39);
        due("habit", x.ofSuspect(1, 3), 0);
        due("comes", x.ofSuspect(1, 4), 1);
        due("pays 10 less row", x.ofSuspect(1, 5), 7);
        due("pays 10 less row", x.ofSuspect(0, 5), 10);
        x.seat(1, 30);
        due("the first of row 3", x.ofSuspect(1, 5), 7);
        x.seat(1, 29);
        due("the last of row 2", x.ofSuspect(1, 5), 8);
        x.seat(1, 39);
        due("what 6", x.ofSuspect(0, 6), -1);
        due("what -1", x.ofSuspect(0, -1), -1);
        due("nobody", x.ofSuspect(3, 0), -1);
        due("nobody", x.ofSuspect(-1, 0), -1);
        read(x, "pays nerves * 1000; guilt 3;");
        read(x, "pays 0 - 5 + place;");
        x.by(0);
        due("999 at most", x.ofSuspect(1, 5), 999);
        x.by(1);
        due("0 at least", x.ofSuspect(0, 5), 0);
        due("4", x.ofSuspect(1, 5), 4);
        x.away(1);
        due("of whom stays away, too", x.ofSuspect(1, 5), 4);
        of(44);
        due("of whom COME", x.worth(), 0 + 1);
        x.by(-1);
        due("10 and 9", x.worth(), 19);
        of(18);
        due("heat", x.ofScene(2, 0), 9);
        due("length", x.ofScene(2, 1), 5);
        due("cut", x.ofScene(2, 2), 0);
        due("encored", x.ofScene(2, 3), 0);
        x.encore(2);
        due("encored", x.ofScene(2, 3), 1);
        due("what 4", x.ofScene(2, 4), -1);
        due("what -1", x.ofScene(2, -1), -1);
        due("none", x.ofScene(3, 0), -1);
        due("none", x.ofScene(-1, 0), -1);
        of(19);
        due("NIGHT", x.is(0), 0);
        due("TAKINGS", x.is(1), 0);
        due("X", x.is(2), 113);
        due("other", x.is(3), -2);
        due("other", x.is(-1), -2);
    }

    private static void book() {
        of(20);
        UntilHeConfesses x = house();
        due("none", x.book(-1, 0), 0);
        due("none such", x.book(0, 0), -2);
        x.night(1);
        due("three", x.book(-1, 0), 3);
        due("whatever is asked", x.book(-1, 9), 3);
        due("night", x.book(0, 0), 0);
        due("scene", x.book(0, 1), 0);
        due("suspect", x.book(0, 2), 0);
        due("third", x.book(2, 1), 2);
        due("third", x.book(2, 2), 1);
        due("none such", x.book(3, 0), -2);
        due("none such", x.book(-2, 0), -2);
        due("other", x.book(0, 3), -2);
        due("other", x.book(0, -1), -2);
    }

    private static void fullBook() {
        of(20);
        UntilHeConfesses x = new UntilHeConfesses();
        x.suspect(true, 0, 0);
        x.suspect(false, 0, 1);
        x.scene(1, 1);
        x.scene(1, 1);
        read(x, "guilt 10; grief 10;");
        x.by(0);
        due("four a night", x.night(9), 36);
        due("36", x.book(-1, 0), 36);
        due("eight", x.night(2), 8);
        due("the latest 40", x.book(-1, 0), 40);
        due("the eldest", x.book(0, 0), 1);
        due("the eldest", x.book(0, 1), 0);
        due("the latest", x.book(39, 0), 10);
        due("the latest", x.book(39, 1), 1);
        due("the latest", x.book(39, 2), 1);
        due("none such", x.book(40, 0), -2);
        of(50);
        due("of all", x.signs(-1, -1), 40);
        due("of one", x.signs(1, -1), 20);
        due("in one", x.signs(-1, 0), 20);
        due("of one in one", x.signs(0, 1), 10);
        due("nobody", x.signs(2, -1), -2);
        due("nobody", x.signs(-2, 0), -2);
        due("no scene", x.signs(0, 2), -2);
        due("no scene", x.signs(0, -2), -2);
        of(51);
        due("the lowest of like ones", x.crying(), 0);
        of(55);
        due("of the other", x.falseSigns(), 20);
        of(16);
        x.undo();
        due("the book ahead", x.book(-1, 0), 40);
        of(20);
        due("the eldest then", x.book(0, 0), 0);
        due("its scene", x.book(1, 1), 0);
        due("its suspect", x.book(1, 2), 1);
        due("the latest then", x.book(39, 0), 9);
        x.undo();
        due("36 again", x.book(-1, 0), 36);
        due("the latest then", x.book(35, 0), 8);
        x.night(1);
        due("40 again", x.book(-1, 0), 40);
        of(28);
        due("more than the book holds", x.foretold(60, 0), 240);
        due("nothing is changed", x.book(0, 0), 0);
    }

    private static void odds() {
        of(21);
        UntilHeConfesses x = house();
        due("guilt", x.odds(1, 2, true), 9);
        due("grief", x.odds(1, 2, false), 1);
        due("nobody", x.odds(3, 0, true), -1);
        due("nobody", x.odds(-1, 0, true), -1);
        due("no scene", x.odds(0, 3, true), -1);
        due("no scene", x.odds(0, -1, false), -1);
        x.night(1);
        due("habit 1 by 2 is 0", x.odds(0, 0, true), 6);
        x.night(1);
        due("habit 2 by 2 is 1", x.odds(0, 0, true), 5);
        x.night(7);
        due("habit 9 by 2 is 4", x.odds(0, 0, true), 2);
        due("0 at least", x.odds(0, 1, true), 0);
        read(x, "grief heat - 3;");
        read(x, "guilt 99;");
        x.by(0);
        due("without guilt", x.odds(0, 0, true), 2);
        due("grief", x.odds(0, 0, false), 3);
        due("0 at least", x.odds(0, 1, false), 0);
        x.by(1);
        due("10 at most", x.odds(0, 1, true), 10);
        due("without grief", x.odds(0, 1, false), 1);
        read(x, "guilt night; grief habit;");
        x.by(2);
        due("as now", x.odds(0, 1, true), 9);
        due("as now", x.odds(0, 1, false), 9);
    }

    private static void shares() {
        UntilHeConfesses x = house();
        of(22);
        due("nobody", x.weight(3, 1), false);
        due("nobody", x.weight(-1, 1), false);
        due("-1", x.weight(0, -1), false);
        due("100", x.weight(0, 100), false);
        due("99", x.weight(0, 99), true);
        due("1", x.weight(0, 1), true);
        of(24);
        due("a third", x.share(0, false), 1);
        due("a third", x.share(0, true), 3);
        due("nobody", x.share(3, false), -1);
        due("nobody", x.share(-1, true), -1);
        of(23);
        due("nobody", x.observe(3, 0, true), -2);
        due("no scene", x.observe(0, 3, true), -2);
        due("no scene", x.observe(0, -1, true), -2);
        due("-2", x.observe(-2, 0, true), -2);
        due("one", x.observe(0, 0, false), 1);
        // guilt 6, grief 1: without a sign 4 if it is 0, else 9: 4 9 9
        of(24);
        due("4 of 22", x.share(0, false), 2);
        due("4 of 22", x.share(0, true), 11);
        due("9 of 22", x.share(1, false), 9);
        of(26);
        due("the lowest of like ones", x.guess(), 1);
        of(27);
        // 0 and 1: 4, 0 and 2: 4, 1 and 2: 9
        due("4 of 17", x.both(0, 1, false), 4);
        due("4 of 17", x.both(1, 0, true), 17);
        due("9 of 17", x.both(2, 1, false), 9);
        due("one alone", x.both(1, 1, false), -1);
        due("nobody", x.both(0, 3, false), -1);
        due("nobody", x.both(-1, 0, false), -1);
        x.weight(1, 0);
        x.weight(2, 3);
        due("0 and 2: 12 of 12", x.both(0, 2, false), 1);
        due("0", x.both(1, 2, false), 0);
        due("by 1", x.both(1, 2, true), 1);
        of(24);
        due("27 of 31", x.share(2, false), 27);
        due("4 of 31", x.share(0, true), 31);
        due("0 of 31", x.share(1, false), 0);
        due("0 by 1", x.share(1, true), 1);
        of(26);
        due("the greatest", x.guess(), 2);
        x.weight(0, 0);
        x.weight(2, 0);
        due("none", x.guess(), -1);
        of(24);
        due("0", x.share(0, false), 0);
        due("by 1", x.share(0, true), 1);
        of(27);
        due("0", x.both(0, 1, false), 0);
        due("by 1", x.both(0, 1, true), 1);
        of(26);
        due("of like ones the lowest", house().guess(), 0);
        of(23);
        for (int k = 2; k <= 8; k++) {
            due("more", x.observe(0, 0, true), k);
        }
        due("the 9th", x.observe(0, 0, true), -2);
        due("none any more", x.observe(-1, 77, false), 0);
        due("one", x.observe(0, 0, true), 1);
        of(25);
        UntilHeConfesses y = new UntilHeConfesses();
        due("no scene", y.tellsMost(), -1);
        y.suspect(false, 0, 0);
        due("no scene", y.tellsMost(), -1);
        y.scene(2, 1);
        y.scene(3, 1);
        y.scene(3, 1);
        due("the lowest of like ones", y.tellsMost(), 1);
        read(y, "guilt nerves; grief 9-heat;");
        y.by(0);
        y.suspect(false, 9, 1);
        // apart: 0: 7 6 6, 1: 2 3 3; all 9, so the lowest; by weights 2 and 1: 16 15 15; 1 and 2: 11 12 12
        due("all alike", y.tellsMost(), 0);
        y.weight(1, 2);
        due("by weights", y.tellsMost(), 1);
        y.weight(0, 0);
        y.weight(1, 0);
        due("nothing tells, so all are like", y.tellsMost(), 0);
        of(27);
        UntilHeConfesses z = house();
        z.observe(0, 2, true);
        z.observe(1, 2, true);
        z.observe(2, 0, false);
        // guilt 9 9 6, grief 1: 0,1: 9*9*9; 0,2: 9*1*4; 1,2: 1*9*4: 729 36 36
        due("729 of 801", z.both(0, 1, false), 81);
        due("729 of 801", z.both(0, 1, true), 89);
        due("36 of 801", z.both(0, 2, false), 4);
    }

    private static void foretold() {
        UntilHeConfesses x = house();
        x.encore(0);
        of(28);
        due("n 0", x.foretold(0, 0), -1);
        due("n 61", x.foretold(61, 0), -1);
        due("what 2", x.foretold(1, 2), -1);
        due("what -1", x.foretold(1, -1), -1);
        UntilHeConfesses y = house();
        y.encore(0);
        int one = y.night(1);
        int two = one + y.night(1);
        int ten = two + y.night(8);
        due("signs of one", x.foretold(1, 0), one);
        due("signs of two", x.foretold(2, 0), two);
        due("signs of ten", x.foretold(10, 0), ten);
        due("takings of ten", x.foretold(10, 1), y.is(1));
        due("the encore is still", x.ofScene(0, 3), 1);
        due("X is still", x.is(2), 113);
        due("no night", x.is(0), 0);
        due("one step", x.about(4), 1);
        due("takings there are, too", y.foretold(1, 1), y.is(1) + 29);
        of(29);
        due("habit", x.habit(5, 0), 5);
        due("9 at most", x.habit(10, 2), 9);
        due("n 0", x.habit(0, 0), -1);
        due("n 61", x.habit(61, 0), -1);
        due("nobody", x.habit(1, 3), -1);
        due("nobody", x.habit(1, -1), -1);
        x.away(1);
        due("stays away", x.habit(10, 1), 0);
        due("n 1", x.habit(1, 0), 1);
        due("nothing is changed", x.ofSuspect(0, 3), 0);
        due("no night", x.is(0), 0);
        of(30);
        due("stays away", x.firstSign(1), -1);
        due("the first", x.firstSign(0), 1);
        due("nobody", x.firstSign(3), -1);
        due("nobody", x.firstSign(-1), -1);
        UntilHeConfesses z = new UntilHeConfesses();
        z.suspect(true, 0, 0);
        z.scene(9, 1);
        read(z, "guilt (night/59)*10;");
        read(z, "guilt (night/60)*10;");
        read(z, "guilt (night/6)*10;");
        z.by(0);
        due("in the 60th", z.firstSign(0), 60);
        z.by(1);
        due("not in 60", z.firstSign(0), -1);
        z.by(2);
        due("in the 7th", z.firstSign(0), 7);
        z.cut(0);
        due("nothing is given", z.firstSign(0), -1);
    }

    private static void orders() {
        of(31);
        UntilHeConfesses x = house();
        due("sum", x.order(0, 7, -1), 17);
        due("first", x.order(0, 7, 0), 1);
        due("last", x.order(0, 7, 2), 2);
        due("i 3", x.order(0, 7, 3), -2);
        due("i -2", x.order(0, 7, -2), -2);
        due("none", x.order(0, 0, -1), -2);
        due("a scene not told", x.order(0, 8, -1), -2);
        due("below 0", x.order(0, -1, -1), -2);
        due("nobody", x.order(3, 7, -1), -2);
        due("one alone", x.order(0, 4, 0), 2);
        due("one alone", x.order(0, 4, -1), 9);
        x.scene(6, 1);
        // 0 and 3 have heat 6: the one behind the other loses 1
        due("like heats", x.order(0, 9, -1), 11);
        due("lowest first", x.order(0, 9, 0), 0);
        due("then the next", x.order(0, 9, 1), 3);
        due("8 sum", x.order(0, 15, -1), 22);
        due("first", x.order(0, 15, 0), 0);
        x.scene(0, 1);
        x.scene(0, 1);
        due("0 at least", x.order(0, 48, -1), 0);
        read(x, "guilt 1;");
        x.by(0);
        due("1 less is 0", x.order(0, 48, -1), 1);
        x.by(-1);
        due("lowest first", x.order(0, 48, 0), 4);
        due("five", x.order(0, 31, -1) >= 22, true);
        due("six", x.order(0, 63, -1), -2);
        x.cut(0);
        due("cut ones, too", x.order(0, 1, -1), 6);
        // guilt by number, heats down: each order that goes on falling loses
        UntilHeConfesses y = new UntilHeConfesses();
        y.suspect(false, 0, 0);
        y.scene(9, 1);
        y.scene(5, 1);
        read(y, "guilt 5*number;");
        y.by(0);
        // 0 then 1: 0 + 4; 1 then 0: 5 + 0
        due("better the other way", y.order(0, 3, 0), 1);
        due("its sum", y.order(0, 3, -1), 5);
    }

    private static void unseen() {
        of(32);
        UntilHeConfesses x = house();
        due("4", x.unseen(0, false), 4);
        due("125", x.unseen(0, true), 125);
        x.away(0);
        due("whether it comes or not", x.unseen(0, false), 4);
        due("of one not guilty", x.unseen(1, true), 125);
        due("nobody", x.unseen(3, true), -1);
        due("nobody", x.unseen(-1, true), -1);
        x.cut(0);
        x.cut(2);
        due("8 of 10", x.unseen(0, false), 4);
        due("8 of 10", x.unseen(0, true), 5);
        x.encore(1);
        due("twice", x.unseen(0, false), 16);
        due("twice", x.unseen(0, true), 25);
        x.cut(1);
        due("nothing is given", x.unseen(0, false), 1);
        due("nothing is given", x.unseen(0, true), 1);
        read(x, "guilt 10;");
        x.by(0);
        x.cut(1);
        due("surely seen", x.unseen(0, false), 0);
        due("surely seen", x.unseen(0, true), 1);
        UntilHeConfesses y = new UntilHeConfesses();
        y.suspect(true, 0, 0);
        for (int c = 0; c < 7; c++) {
            y.scene(7, 1);
            y.encore(c);
        }
        due("3 to the 14th", y.unseen(0, false), 4782969);
        due("10 to the 14th", y.unseen(0, true), 100000000000000L);
    }

    private static void staysAway() {
        UntilHeConfesses x = new UntilHeConfesses();
        of(33);
        due("night 9", x.risk(9, 1), false);
        due("night -1", x.risk(-1, 1), false);
        due("odds 11", x.risk(0, 11), false);
        due("odds -1", x.risk(0, -1), false);
        of(34);
        due("no risk at first", x.staysAway(9, 1, 9999, 0), 0);
        due("costs nothing", x.staysAway(9, 1, 9999, 1), 0);
        due("by 1", x.staysAway(9, 1, 9999, 2), 1);
        of(33);
        due("night 8", x.risk(8, 10), true);
        due("night 0", x.risk(0, 10), true);
        due("odds 0", x.risk(4, 0), true);
        of(34);
        due("both nights", x.staysAway(9, 1, 9999, 0), 257);
        due("two", x.staysAway(9, 1, 9999, 1), 2);
        due("the first alone", x.staysAway(8, 1, 9999, 0), 1);
        due("costs nothing: the lowest", x.staysAway(9, 0, 0, 0), 0);
        due("like costs: the lowest", x.staysAway(1, 5, 5, 0), 0);
        due("dearer", x.staysAway(1, 5, 6, 0), 1);
        x.risk(0, 5);
        x.risk(8, 0);
        due("half of 7", x.staysAway(1, 4, 7, 1), 7);
        due("half of 7", x.staysAway(1, 4, 7, 2), 2);
        for (int k = 0; k < 9; k++) {
            x.risk(k, 1);
        }
        // 1 - 0.9^9 = 0.612579511
        due("all come", x.staysAway(9, 99, 99, 1), 99L * 612579511);
        due("all come", x.staysAway(9, 99, 99, 2), 1000000000);
        due("n 0", x.staysAway(0, 1, 1, 0), -1);
        due("n 10", x.staysAway(10, 1, 1, 0), -1);
        due("c -1", x.staysAway(1, -1, 1, 0), -1);
        due("c 100", x.staysAway(1, 100, 1, 0), -1);
        due("p -1", x.staysAway(1, 1, -1, 0), -1);
        due("p 10000", x.staysAway(1, 1, 10000, 0), -1);
        due("what 3", x.staysAway(1, 1, 1, 3), -1);
        due("what -1", x.staysAway(1, 1, 1, -1), -1);
    }

    private static void toRun() {
        UntilHeConfesses x = new UntilHeConfesses();
        of(35);
        due("till takings end", x.toRun(10, 4, 0, 50, 0), 3);
        due("18", x.toRun(10, 4, 0, 50, 1), 18);
        due("by 1", x.toRun(10, 4, 0, 50, 2), 1);
        due("nothing to take", x.toRun(0, 0, 0, 9999, 0), 0);
        due("0", x.toRun(0, 0, 0, 9999, 1), 0);
        due("by 1", x.toRun(0, 0, 0, 9999, 2), 1);
        due("surely in the first", x.toRun(5, 0, 10, 7, 0), 1);
        due("takings, too", x.toRun(5, 0, 10, 7, 1), 12);
        due("nine at most", x.toRun(1, 0, 5, 0, 0), 9);
        due("1 + 1/2 + .. 1/256", x.toRun(1, 0, 5, 0, 1), 511);
        due("by 256", x.toRun(1, 0, 5, 0, 2), 256);
        due("truth alone", x.toRun(3, 3, 1, 10, 0), 9);
        due("takings of exactly 0", x.toRun(8, 4, 0, 9, 0), 2);
        due("most of all", x.toRun(9999, 0, 0, 0, 1), 89991);
        due("least of all", x.toRun(9999, 999, 0, 0, 1), 9 * 9999 - 36 * 999);
        due("t -1", x.toRun(-1, 0, 0, 0, 0), -1);
        due("t 10000", x.toRun(10000, 0, 0, 0, 0), -1);
        due("d -1", x.toRun(0, -1, 0, 0, 0), -1);
        due("d 1000", x.toRun(0, 1000, 0, 0, 0), -1);
        due("q -1", x.toRun(0, 0, -1, 0, 0), -1);
        due("q 11", x.toRun(0, 0, 11, 0, 0), -1);
        due("w -1", x.toRun(0, 0, 0, -1, 0), -1);
        due("w 10000", x.toRun(0, 0, 0, 10000, 0), -1);
        due("what 3", x.toRun(0, 0, 0, 0, 3), -1);
        due("what -1", x.toRun(0, 0, 0, 0, -1), -1);
    }

    private static void cutsAndLasts() {
        UntilHeConfesses x = house();
        of(36);
        due("8", x.cuts(8), 5);
        due("7: 2 and 9", x.cuts(7), 6);
        due("5: 9 rather than 8", x.cuts(5), 4);
        due("4", x.cuts(4), 1);
        due("2", x.cuts(2), 2);
        due("1", x.cuts(1), 0);
        due("0", x.cuts(0), 0);
        due("99", x.cuts(99), 7);
        due("-1", x.cuts(-1), -1);
        due("100", x.cuts(100), -1);
        x.cut(2);
        due("cut ones, too", x.cuts(5), 4);
        x.scene(9, 4);
        due("of like ones the shortest", x.cuts(5), 8);
        x.scene(9, 4);
        due("then the lowest", x.cuts(5), 8);
        UntilHeConfesses y = new UntilHeConfesses();
        due("no scenes", y.cuts(9), 0);
        y.scene(0, 1);
        due("of no heat", y.cuts(9), 0);
        y.scene(1, 1);
        due("of heat 1", y.cuts(9), 2);
        of(37);
        due("without the cut one", x.lasts(), 13);
        x.encore(1);
        due("twice", x.lasts(), 15);
        due("none", new UntilHeConfesses().lasts(), 0);
    }

    private static void ahead() {
        UntilHeConfesses x = house();
        of(38);
        due("itself", x.ahead(1, 1), -2);
        due("no scene", x.ahead(0, 3), -2);
        due("no scene", x.ahead(3, 0), -2);
        due("no scene", x.ahead(0, -1), -2);
        due("-2", x.ahead(-2, 0), -2);
        of(39);
        due("all", x.orders(), 6);
        x.cut(0);
        due("cut ones, too", x.orders(), 6);
        of(38);
        due("one", x.ahead(2, 0), 1);
        of(39);
        due("half", x.orders(), 3);
        of(38);
        due("told twice", x.ahead(2, 0), 2);
        of(39);
        due("half", x.orders(), 3);
        x.ahead(0, 1);
        due("one row", x.orders(), 1);
        x.ahead(1, 2);
        due("round about", x.orders(), 0);
        of(38);
        for (int k = 5; k <= 8; k++) {
            due("more", x.ahead(0, 1), k);
        }
        due("the 9th", x.ahead(0, 1), -2);
        due("none any more", x.ahead(-1, -1), 0);
        of(39);
        due("all", x.orders(), 6);
        for (int c = 3; c < 7; c++) {
            x.scene(1, 1);
        }
        due("seven", x.orders(), 5040);
        due("none", new UntilHeConfesses().orders(), 1);
    }

    private static void facing() {
        of(40);
        UntilHeConfesses x = new UntilHeConfesses();
        due("nobody", x.facing(), 0);
        x.suspect(false, 0, 10);
        x.suspect(false, 0, 9);
        due("9 and 10 are far", x.facing(), 0);
        of(42);
        due("both", x.lonely(), 3);
        x.suspect(false, 0, 22);
        of(40);
        due("one row, two places", x.facing(), 1);
        x.seat(2, 23);
        due("three places", x.facing(), 0);
        x.seat(2, 30);
        due("two rows", x.facing(), 0);
        x.seat(2, 12);
        due("the same row", x.facing(), 1);
        x.away(2);
        due("away, too", x.facing(), 1);
        of(42);
        due("1 alone", x.lonely(), 2);
        due("nobody", new UntilHeConfesses().lonely(), 0);
        of(43);
        due("nobody", x.bestSeat(3, true), -1);
        due("nobody", x.bestSeat(-1, true), -1);
        due("how many", x.bestSeat(1, true), 2);
        due("0 faces 10 and 12", x.bestSeat(1, false), 0);
        UntilHeConfesses y = new UntilHeConfesses();
        y.suspect(false, 0, 17);
        due("alone: the lowest", y.bestSeat(0, false), 0);
        due("none", y.bestSeat(0, true), 0);
        y.suspect(false, 0, 39);
        due("of 39", y.bestSeat(0, false), 27);
        y.seat(0, 0);
        y.suspect(false, 0, 1);
        y.seat(1, 3);
        due("its own: 0 1 3", y.bestSeat(2, false), 1);
        due("both", y.bestSeat(2, true), 2);
    }

    private static void seatings() {
        of(41);
        UntilHeConfesses x = new UntilHeConfesses();
        due("nobody", x.seating(1, -1), -2);
        x.suspect(false, 0, 35);
        x.suspect(false, 0, 0);
        x.suspect(false, 0, 25);
        x.suspect(false, 0, 2);
        due("one alone", x.seating(1, -1), 2);
        due("where it is", x.seating(1, 0), 35);
        due("all like: 0 on the lowest", x.seating(15, 0), 0);
        due("1 on the next", x.seating(15, 1), 2);
        due("2", x.seating(15, 2), 25);
        due("3", x.seating(15, 3), 35);
        due("how many", x.seating(15, -1), 2);
        due("0 and 1 change", x.seating(3, 0), 0);
        due("0 and 1 change", x.seating(3, 1), 35);
        due("one of the others", x.seating(3, 2), -2);
        due("one of the others, above the set", x.seating(3, 3), -2);
        due("one of the others, below the set", x.seating(12, 0), -2);
        due("between two of the set", x.seating(5, 1), -2);
        due("another's set of one", x.seating(2, 0), -2);
        due("its own set of one", x.seating(2, 1), 0);
        due("nothing is changed", x.ofSuspect(0, 2), 35);
        due("none", x.seating(0, -1), -2);
        due("not told", x.seating(16, -1), -2);
        due("below 0", x.seating(-1, -1), -2);
        due("nobody", x.seating(3, 4), -2);
        due("nobody", x.seating(3, -2), -2);
        x.suspect(false, 0, 1);
        due("five", x.seating(31, -1), 4);
        x.suspect(false, 0, 39);
        due("six", x.seating(63, -1), -2);
        due("five of six", x.seating(62, -1), 4);
    }

    private static void torn() {
        UntilHeConfesses x = new UntilHeConfesses();
        of(46);
        due("nobody", x.sittings(false), 1);
        due("nobody", x.sittings(true), 0);
        for (int s = 0; s < 4; s++) {
            x.suspect(false, 0, s * 10);
        }
        due("all", x.sittings(false), 24);
        of(45);
        due("nobody", x.torn(4, 0, true), -2);
        due("-2", x.torn(-2, 0, true), -2);
        due("row 4", x.torn(0, 4, true), -2);
        due("row -1", x.torn(0, -1, true), -2);
        due("one", x.torn(0, 3, true), 1);
        of(46);
        due("six", x.sittings(false), 6);
        due("0 is sure", x.sittings(true), 1);
        of(45);
        due("two", x.torn(1, 0, false), 2);
        due("three", x.torn(1, 1, false), 3);
        of(46);
        due("1 is on 20", x.sittings(false), 2);
        due("0 and 1 are sure", x.sittings(true), 3);
        of(45);
        due("four", x.torn(2, 0, false), 4);
        of(46);
        due("one", x.sittings(false), 1);
        due("all are sure", x.sittings(true), 15);
        of(45);
        due("five", x.torn(0, 3, false), 5);
        of(46);
        due("none", x.sittings(false), 0);
        due("none", x.sittings(true), 0);
        of(45);
        due("six", x.torn(0, 0, false), 6);
        due("seven", x.torn(0, 0, false), 7);
        due("eight", x.torn(0, 0, false), 8);
        due("the 9th", x.torn(0, 0, false), -2);
        due("none any more", x.torn(-1, -1, false), 0);
        of(46);
        due("all", x.sittings(false), 24);
        x.suspect(false, 0, 9);
        due("five", x.sittings(false), 120);
        x.torn(4, 0, true);
        due("two seats of row 0", x.sittings(false), 48);
        due("nobody is sure", x.sittings(true), 0);
        x.suspect(false, 0, 2);
        due("six suspects", x.sittings(false), -1);
        due("six suspects", x.sittings(true), -1);
        of(45);
        due("told with six", x.torn(5, 0, true), 2);
    }

    private static void claque() {
        of(47);
        UntilHeConfesses x = new UntilHeConfesses();
        due("half", x.claque(3, 5, false), 1);
        due("half", x.claque(17, 5, true), 2);
        due("one", x.claque(1, 3, false), 3);
        due("one", x.claque(1, 3, true), 10);
        // 3 * 0.04 * 0.8 + 0.008 = 0.104
        due("13", x.claque(3, 2, false), 13);
        due("125", x.claque(3, 2, true), 125);
        due("never", x.claque(17, 0, false), 0);
        due("by 1", x.claque(17, 0, true), 1);
        due("surely", x.claque(17, 10, false), 1);
        due("by 1", x.claque(17, 10, true), 1);
        java.math.BigInteger up = java.math.BigInteger.ZERO;
        java.math.BigInteger ways = java.math.BigInteger.ONE;
        for (int k = 0; k <= 17; k++) {
            if (k > 8) {
                up = up.add(ways.multiply(java.math.BigInteger.valueOf(3).pow(k)).multiply(java.math.BigInteger.valueOf(7).pow(17 - k)));
            }
            ways = ways.multiply(java.math.BigInteger.valueOf(17 - k)).divide(java.math.BigInteger.valueOf(k + 1));
        }
        java.math.BigInteger all = java.math.BigInteger.TEN.pow(17);
        java.math.BigInteger g = up.gcd(all);
        due("17 by 3", x.claque(17, 3, false), up.divide(g).longValueExact());
        due("17 by 3", x.claque(17, 3, true), all.divide(g).longValueExact());
        due("even", x.claque(2, 5, true), -1);
        due("even", x.claque(16, 5, true), -1);
        due("-1", x.claque(-1, 5, true), -1);
        due("0", x.claque(0, 5, true), -1);
        due("19", x.claque(19, 5, true), -1);
        due("h -1", x.claque(3, -1, true), -1);
        due("h 11", x.claque(3, 11, true), -1);
    }

    private static void whose() {
        UntilHeConfesses x = house();
        of(49);
        due("no texts", x.whose(), 0);
        read(x, "guilt heat;");
        read(x, "grief 5;");
        read(x, "guilt 3*row+6;");
        due("no signs: all", x.whose(), 7);
        of(48);
        due("nobody", x.sign(3, 0, 1), -2);
        due("-2", x.sign(-2, 0, 1), -2);
        due("no scene", x.sign(0, 3, 1), -2);
        due("no scene", x.sign(0, -1, 1), -2);
        due("odds 11", x.sign(0, 0, 11), -2);
        due("odds -1", x.sign(0, 0, -1), -2);
        due("one", x.sign(0, 0, 6), 1);
        of(49);
        due("all three", x.whose(), 7);
        x.sign(1, 1, 2);
        due("not the third", x.whose(), 3);
        x.night(2);
        due("as now: without it habits count", x.whose(), 1);
        x.sign(2, 2, 10);
        due("none", x.whose(), 0);
        of(48);
        due("none any more", x.sign(-1, 99, 99), 0);
        due("10", x.sign(2, 2, 10), 1);
        of(49);
        due("none", x.whose(), 0);
        of(48);
        for (int k = 2; k <= 8; k++) {
            due("more", x.sign(0, 0, 0), k);
        }
        due("the 9th", x.sign(0, 0, 0), -2);
        x.sign(-1, 0, 0);
        x.sign(2, 0, 9);
        of(49);
        due("the third", x.whose(), 4);
    }

    private static void written() {
        of(51);
        UntilHeConfesses x = new UntilHeConfesses();
        due("nobody", x.crying(), -1);
        x.suspect(true, 0, 0);
        x.suspect(false, 0, 1);
        x.scene(5, 1);
        due("nothing is written down", x.crying(), -1);
        read(x, "guilt 0; grief 10;");
        x.by(0);
        x.night(1);
        due("1", x.crying(), 1);
        of(55);
        due("false", x.falseSigns(), 1);
        x.by(-1);
        of(50);
        due("of 0", x.signs(0, -1), 0);
        due("of 1", x.signs(1, 0), 1);
    }

    private static void houseAndScenes() {
        of(52);
        UntilHeConfesses x = house();
        due("row 0", x.empty(0), 8);
        due("row 1", x.empty(1), 9);
        due("row 3", x.empty(3), 10);
        due("row 4", x.empty(4), -1);
        due("row -1", x.empty(-1), -1);
        x.away(0);
        due("of whom stays away", x.empty(0), 9);
        of(54);
        due("stays away", x.suspected(), 0);
        x.away(0);
        due("row 0", x.suspected(), 1);
        x.suspect(true, 0, 39);
        x.suspect(true, 0, 38);
        due("rows 0 and 3", x.suspected(), 9);
        x.seat(0, 20);
        due("rows 2 and 3", x.suspected(), 12);
        of(53);
        due("hottest", x.hottest(), 2);
        x.scene(9, 1);
        due("the lowest of like ones", x.hottest(), 2);
        x.cut(2);
        due("not a cut one", x.hottest(), 3);
        x.cut(3);
        x.cut(0);
        x.cut(1);
        due("none", x.hottest(), -1);
        UntilHeConfesses y = new UntilHeConfesses();
        y.scene(0, 1);
        due("heat 0", y.hottest(), 0);
    }

    private static void image() {
        of(56);
        UntilHeConfesses x = house();
        x.night(2);
        x.cut(1);
        x.weight(0, 5);
        x.risk(0, 5);
        x.observe(0, 0, true);
        x.ahead(0, 1);
        x.torn(0, 0, true);
        x.sign(0, 0, 6);
        read(x, "guilt 7;");
        x.by(0);
        due("NIGHT", x.image(), 2);
        of(57);
        x.suspect(true, 9, 39);
        x.scene(9, 9);
        x.night(5);
        x.encore(0);
        x.away(0);
        x.seat(1, 20);
        x.weight(0, 9);
        x.risk(0, 9);
        x.observe(-1, 0, true);
        x.observe(1, 1, false);
        x.observe(1, 1, false);
        x.ahead(-1, 0);
        x.ahead(1, 0);
        x.ahead(2, 1);
        x.torn(-1, 1, true);
        x.torn(1, 3, true);
        x.sign(-1, 0, 0);
        x.sign(1, 1, 9);
        x.sign(1, 1, 9);
        read(x, "guilt 1;");
        x.by(1);
        read(x, "guilt");
        x.feed(1, 2, 3, 4, 5);
        int[] was = {3, 3, 1, 0, 3, 1, 1, 1, 1};
        due("NIGHT", x.back(), 2);
        for (int k = 0; k < was.length; k++) {
            due("about(" + k + ")", x.about(k), was[k]);
        }
        due("the tape stays", x.about(9), 20);
        due("the latest FAULT stays", x.fault(0), 1);
        due("its place", x.fault(1), 5);
        due("cut", x.ofScene(1, 2), 1);
        due("comes", x.ofSuspect(0, 4), 1);
        due("seat", x.ofSuspect(1, 2), 6);
        due("habit", x.ofSuspect(1, 3), 2);
        due("takings", x.is(1), 58);
        due("law", x.odds(0, 0, true), 7);
        due("weight: 5 * 7 of 5 * 7 + 1 + 1", x.share(0, true), 37);
        due("risk: half of 10", x.staysAway(1, 99, 10, 1), 5);
        due("text numbers go on", read(x, "guilt 2;"), 1);
        due("orders", x.orders(), 3);
        due("sittings: 0 on row 0", x.sittings(false), 4);
        due("by guilt 7 and 2: none shows 6", x.whose(), 0);
        x.sign(-1, 0, 0);
        x.sign(0, 0, 7);
        due("by guilt 7", x.whose(), 1);
        due("steps", x.undo(), 2);
        due("the cut is taken back", x.ofScene(1, 2), 0);
        due("the image stays", x.back(), 2);
        due("cut again", x.ofScene(1, 2), 1);
        due("steps again", x.about(4), 3);
        due("a new suspect on a seat", x.suspect(false, 0, 39), 3);
        due("not guilty", x.ofSuspect(3, 0), 0);
        UntilHeConfesses y = house();
        y.night(3);
        y.feed(1, 2, 3, 4, 5);
        of(57);
        int signs = y.book(-1, 0);
        int scene = y.book(signs - 1, 1);
        y.image();
        y.undo();
        y.undo();
        y.cut(1);
        y.seasons(3, 30);
        due("NIGHT", y.back(), 3);
        due("the book", y.book(-1, 0), signs);
        due("its latest scene", y.book(signs - 1, 1), scene);
        due("its latest night", y.book(signs - 1, 0), 2);
        due("a night back", y.undo(), 2);
        due("NIGHT", y.is(0), 2);
        due("habit", y.ofSuspect(0, 3), 2);
        due("not cut", y.ofScene(1, 2), 0);
        due("another back", y.undo(), 1);
        due("the first back", y.undo(), 0);
        due("the book", y.book(-1, 0), 0);
        y = house();
        y.night(3);
        y.feed(1, 2, 3, 4, 5);
        due("the first image", y.back(), 0);
        due("is empty", y.about(0) + y.about(1) + y.about(4), 0);
        due("X", y.is(2), 113);
        due("the tape", y.about(9), 20);
    }

    private static void about() {
        of(58);
        UntilHeConfesses x = house();
        read(x, "cut 0;");
        read(x, "cut 0;");
        x.by(1);
        x.cut(0);
        x.observe(0, 0, true);
        x.ahead(0, 1);
        x.ahead(0, 1);
        x.torn(0, 0, true);
        x.sign(0, 0, 1);
        x.sign(0, 0, 1);
        x.sign(0, 0, 1);
        x.feed(0, 0, 0, 0, 0);
        x.scene(1, 1);
        int[] all = {3, 4, 2, 1, 1, 1, 2, 1, 3, 20};
        for (int k = 0; k < all.length; k++) {
            due("about(" + k + ")", x.about(k), all[k]);
        }
        due("other", x.about(10), -2);
        due("other", x.about(-1), -2);
    }
}

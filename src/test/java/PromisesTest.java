/** Promise by promise: ordinary inputs, the edges that the document names, wrong inputs; worked out by hand. */
public final class PromisesTest {
    private static final int BAD = -1, STATE = -2, FULL = -3, NONE = -9, NO = -1000000;
    private static final int[] FAR = {Integer.MIN_VALUE, -1000000, -10, 100, 1000000, Integer.MAX_VALUE};

    private static final String LONG_WAY = "w20 2;w12 1;w8 0;t11 4 0 1 0;t5 1 0 1 1;t9 0 1 0 0;t6 2 1 0 1;t3 0 0 2 2;"
        + "s6 0 0;s8 1 1;s10 0 1;s4 1 0;";
    /** LOADS 12 and 2. */
    private static final String TWO = "w10 0;w10 0;t8 0 0 0 0;t4 0 0 0 0;t2 0 0 0 1;s10 0 0;";

    private static int wrong = 0;
    private static int promise = 0;

    private static void due(String call, long got, long want) {
        if (got != want) {
            wrong++;
            System.out.println("promise " + promise + ": " + call + " answered " + got + ", due is " + want);
        }
    }

    private static void type(TentBearers x, String text) {
        for (int i = 0; i < text.length(); i++) {
            x.type(text.charAt(i));
        }
    }

    private static TentBearers told(String text) {
        TentBearers x = new TentBearers();
        type(x, text);
        int way = x.way();
        if (way < 0) {
            due("way() of " + text, way, 0);
        }
        return x;
    }

    public static void main(String[] args) {
        newObject();
        text();
        way();
        faults();
        readAnew();
        walkers();
        things();
        stages();
        gives();
        leaves();
        goes();
        goesTiring();
        undo();
        now();
        rest();
        spent();
        soonest();
        helps();
        leave();
        eat();
        truly();
        odds();
        book();
        sacks();
        mark();
        images();
        count();
        nobody();
        System.out.println(wrong == 0 ? "all promises are kept" : wrong + " answers are not as due");
        if (wrong != 0) {
            System.exit(1);
        }
    }

    private static void newObject() {
        promise = 1;
        TentBearers x = new TentBearers();
        for (int what = 0; what <= 5; what++) {
            due("count", x.count(what), 0);
        }
        int[] now = {0, 0, 0, 1, 0, 0, 0, 0};
        for (int what = 0; what <= 7; what++) {
            due("now", x.now(what), now[what]);
        }
        due("walker", x.walker(0, 0), BAD);
        due("thing", x.thing(0, 0), BAD);
        due("stage", x.stage(0, 0), BAD);
        due("gives", x.gives(0, 0), BAD);
        due("leaves", x.leaves(0), BAD);
        due("back", x.back(0), STATE);
        due("trace", x.trace(), 0);
    }

    private static void text() {
        promise = 2;
        TentBearers x = new TentBearers();
        due("type(0)", x.type(0), 1);
        due("type(255)", x.type(255), 2);
        due("type(-1)", x.type(-1), BAD);
        due("type(256)", x.type(256), BAD);
        for (int c : FAR) {
            if (c != 100) {
                due("type", x.type(c), BAD);
            }
        }
        for (int i = 3; i <= 200; i++) {
            due("type(32)", x.type(32), i);
        }
        due("type(32)", x.type(32), FULL);
        due("type(256)", x.type(256), BAD);
        due("count(5)", x.count(5), 200);
        promise = 3;
        due("clear()", x.clear(), 200);
        due("clear()", x.clear(), 0);
        due("count(5)", x.count(5), 0);
        due("type(32)", x.type(32), 1);
    }

    private static void way() {
        promise = 4;
        way("", 0);
        way("   ", 0);
        way("w5 1;", 1);
        way("  w 5   1 ;  ", 1);
        way("w40 5;w1 0;w9 3;w10 2;", 4);
        way("w1 0;t1 0 0 0 0;t20 9 1 3 0;s1 0 0;s20 1 1;", 5);
        way("s1 0 0;w1 0;s2 0 0;t1 0 0 0 0;w1 0;t1 0 0 0 1;", 6);
        way("s1 0 0;s1 0 0;s1 0 0;s1 0 0;s1 0 0;s1 0 0;s1 0 0;s1 0 0;", 8);
        TentBearers x = told(LONG_WAY);
        due("count(5)", x.count(5), 0);
        due("count(0)", x.count(0), 3);
        due("count(1)", x.count(1), 5);
        due("count(2)", x.count(2), 4);
        due("way()", x.way(), 0);
        due("count(0)", x.count(0), 0);
    }

    private static void way(String text, int want) {
        TentBearers x = new TentBearers();
        type(x, text);
        due("way() of '" + text + "'", x.way(), want);
    }

    private static void faults() {
        fault("w", 1);
        fault("w5", 2);
        fault("w5 1", 4);
        fault("w5 1  ", 6);
        fault("w5 1;t", 6);
        fault(";", 0);
        fault(" ;", 1);
        fault("5", 0);
        fault("w5 1;;", 5);
        fault("w;", 1);
        fault("w5;", 2);
        fault("w5 1 1;", 5);
        fault("w5 1w", 4);
        fault("x5 1;", 0);
        fault("ww5 1;", 0);
        fault("w t", 2);
        fault("wz5 1;", 0);
        fault("aw5 1;", 0);
        fault("W5 1;", 0);
        fault("w5\t1;", 2);
        fault("w5,1;", 2);
        fault("w-5 1;", 1);
        fault("w5 1;" + (char) 0, 5);
        fault("w5 1;" + (char) 255, 5);
        fault("w0 0;", 1);
        fault("w41 0;", 1);
        fault("w100 0;", 1);
        fault("w4294967297 0;", 1);
        fault("w05 1;", 1);
        fault("w5 00;", 3);
        fault("w5 6;", 3);
        fault("119 1;", 0);
        fault("t1 0 0 0 0;", 9);
        fault("w1 0;t0 0 0 0 0;", 6);
        fault("w1 0;t21 0 0 0 0;", 6);
        fault("w1 0;t1 10 0 0 0;", 8);
        fault("w1 0;t1 0 2 0 0;", 10);
        fault("w1 0;t1 0 0 4 0;", 12);
        fault("w1 0;t1 0 0 0 1;w1 0;", 14);
        fault("s0 0 0;", 1);
        fault("s21 0 0;", 1);
        fault("s1 2 0;", 3);
        fault("s1 0 2;", 5);
        fault("w1 0;w1 0;w1 0;w1 0; w1 0;", 21);
        fault("w1 0;t1 0 0 0 0;t1 0 0 0 0;t1 0 0 0 0;t1 0 0 0 0;t1 0 0 0 0;t1 0 0 0 0;t1 0 0 0 0;t", 82);
        fault("s1 0 0;s1 0 0;s1 0 0;s1 0 0;s1 0 0;s1 0 0;s1 0 0;s1 0 0;s1 0 0;", 56);
    }

    private static void fault(String text, int place) {
        TentBearers x = told("w7 0;s3 0 0;");
        x.goes();
        type(x, text);
        due("way() of '" + text + "'", x.way(), -10 - place);
        due("clear()", x.clear(), text.length());
        due("walker(0, 0)", x.walker(0, 0), 7);
        due("count(0)", x.count(0), 1);
        due("count(2)", x.count(2), 1);
        due("now(0)", x.now(0), 1);
        due("count(4)", x.count(4), 1);
    }

    private static void readAnew() {
        TentBearers x = told(TWO);
        x.gives(0, 1);
        x.goes();
        x.book(0, 1, 1);
        x.keep(0);
        x.keep(1);
        x.mark(0, 0);
        type(x, "w10 0;t3 0 0 0 0;s1 0 0;");
        due("way()", x.way(), 3);
        for (int what = 0; what <= 7; what++) {
            due("now", x.now(what), what == 3 ? 1 : 0);
        }
        due("count(3)", x.count(3), 0);
        due("count(4)", x.count(4), 0);
        due("undo()", x.undo(), STATE);
        due("back(0)", x.back(0), STATE);
        due("back(1)", x.back(1), STATE);
        due("thing(0, 4)", x.thing(0, 4), 0);
        due("thing(1, 0)", x.thing(1, 0), BAD);
        due("trace()", x.trace(), 1);
    }

    private static void walkers() {
        promise = 5;
        TentBearers x = told(LONG_WAY);
        int[][] want = {{20, 2, 0, 20, 10, 5}, {12, 1, 0, 11, 11, 10}, {8, 0, 0, 3, 15, 16}};
        for (int w = 0; w < 3; w++) {
            for (int what = 0; what <= 5; what++) {
                due("walker(" + w + ", " + what + ")", x.walker(w, what), want[w][what]);
            }
        }
        due("walker(-1, 0)", x.walker(-1, 0), BAD);
        due("walker(3, 0)", x.walker(3, 0), BAD);
        due("walker(0, -1)", x.walker(0, -1), BAD);
        due("walker(0, 6)", x.walker(0, 6), BAD);
        for (int far : FAR) {
            due("walker", x.walker(far, 0), BAD);
            due("walker", x.walker(0, far), BAD);
        }
        TentBearers weak = told("w1 0;w40 0;t20 0 0 0 0;t11 0 0 0 1;t20 0 0 0 1;");
        due("the least PACE", weak.walker(0, 4), 1);
        due("a PACE", weak.walker(1, 4), 19);
        weak.leaves(1);
        due("the greatest PACE", weak.walker(1, 4), 20);
        due("without what is LEFT BEHIND", weak.walker(1, 5), 4);
        due("without what is LEFT BEHIND", weak.walker(1, 3), 20);
    }

    private static void things() {
        promise = 6;
        TentBearers x = told("w20 0;t4 3 1 2 0;t6 5 0 0 0;s5 1 1;s5 0 0;");
        int[][] want = {{4, 3, 1, 2, 0, 4, 0, 4}, {6, 5, 0, 0, 0, 6, 0, 6}};
        int[][] wet = {{4, 3, 1, 2, 0, 2, 1, 5}, {6, 5, 0, 0, 9, 6, 1, 11}};
        for (int t = 0; t < 2; t++) {
            for (int what = 0; what <= 7; what++) {
                due("thing(" + t + ", " + what + ")", x.thing(t, what), want[t][what]);
            }
        }
        x.goes();
        x.leaves(1);
        for (int t = 0; t < 2; t++) {
            for (int what = 0; what <= 7; what++) {
                due("thing(" + t + ", " + what + ") wet", x.thing(t, what), wet[t][what]);
            }
        }
        x.goes();
        due("eaten", x.thing(0, 7), 0);
        due("dry, though LEFT BEHIND", x.thing(1, 6), 0);
        due("thing(2, 0)", x.thing(2, 0), BAD);
        due("thing(-1, 0)", x.thing(-1, 0), BAD);
        due("thing(0, -1)", x.thing(0, -1), BAD);
        due("thing(0, 8)", x.thing(0, 8), BAD);
        for (int far : FAR) {
            due("thing", x.thing(far, 0), BAD);
            due("thing", x.thing(0, far), BAD);
        }
        TentBearers y = told("w20 0;t2 9 1 0 0;s5 1 1;");
        y.goes();
        due("all eaten, so nothing soaks", y.thing(0, 7), 0);
        due("but it is WET", y.thing(0, 6), 1);
    }

    private static void stages() {
        promise = 7;
        TentBearers x = told("s5 1 0;s20 0 1;");
        int[][] want = {{5, 1, 0}, {20, 0, 1}};
        for (int s = 0; s < 2; s++) {
            for (int what = 0; what <= 2; what++) {
                due("stage(" + s + ", " + what + ")", x.stage(s, what), want[s][what]);
            }
        }
        due("stage(2, 0)", x.stage(2, 0), BAD);
        due("stage(-1, 0)", x.stage(-1, 0), BAD);
        due("stage(0, -1)", x.stage(0, -1), BAD);
        due("stage(0, 3)", x.stage(0, 3), BAD);
        for (int far : FAR) {
            due("stage", x.stage(far, 0), BAD);
            due("stage", x.stage(0, far), BAD);
        }
    }

    private static void gives() {
        promise = 8;
        TentBearers x = told(TWO);
        due("gives(0, 1)", x.gives(0, 1), 0);
        due("thing(0, 4)", x.thing(0, 4), 1);
        due("walker(0, 3)", x.walker(0, 3), 4);
        due("walker(1, 3)", x.walker(1, 3), 10);
        due("now(7)", x.now(7), 1);
        due("count(4)", x.count(4), 1);
        due("with him", x.gives(0, 1), STATE);
        due("gives(0, 0)", x.gives(0, 0), 1);
        x.leaves(1);
        due("LEFT BEHIND", x.gives(1, 1), STATE);
        due("BAD ahead of STATE", x.gives(1, 2), BAD);
        due("gives(3, 0)", x.gives(3, 0), BAD);
        due("gives(-1, 0)", x.gives(-1, 0), BAD);
        due("gives(0, 2)", x.gives(0, 2), BAD);
        due("gives(0, 9)", x.gives(0, 9), BAD);
        due("gives(0, -1)", x.gives(0, -1), BAD);
        for (int far : FAR) {
            due("gives", x.gives(far, 0), BAD);
            due("gives", x.gives(0, far), BAD);
        }
        due("nothing changes", x.now(7), 2);
        due("nothing changes", x.count(4), 3);
    }

    private static void leaves() {
        promise = 9;
        TentBearers x = told("w10 0;w10 0;t8 0 0 0 0;t4 0 0 0 1;s1 0 0;s1 0 1;");
        due("leaves(1)", x.leaves(1), 1);
        due("thing(1, 4)", x.thing(1, 4), 9);
        due("walker(1, 3)", x.walker(1, 3), 0);
        due("it is", x.leaves(1), STATE);
        due("leaves(2)", x.leaves(2), BAD);
        due("leaves(-1)", x.leaves(-1), BAD);
        for (int far : FAR) {
            due("leaves", x.leaves(far), BAD);
        }
        x.goes();
        due("no HUT", x.leaves(0), STATE);
        due("BAD ahead of STATE", x.leaves(2), BAD);
        due("nothing changes", x.count(4), 2);
        x.goes();
        due("leaves(0)", x.leaves(0), 0);
        due("now(7)", x.now(7), 0);
    }

    private static void goes() {
        promise = 10;
        TentBearers x = told(LONG_WAY);
        due("goes()", x.goes(), 36);
        due("eaten first", x.thing(2, 5), 3);
        due("nobody tired", x.walker(0, 2), 0);
        due("goes() in rain", x.goes(), 60);
        due("tired", x.walker(1, 2), 2);
        due("eaten", x.thing(2, 5), 0);
        due("eaten", x.thing(3, 5), 3);
        due("wet", x.thing(0, 6), 1);
        due("goes(), still wet", x.goes(), 67);
        due("tired", x.walker(1, 2), 4);
        due("now(2)", x.now(2), 3);
        due("dry", x.thing(0, 6), 0);
        due("goes()", x.goes(), 20);
        due("mended", x.walker(1, 2), 3);
        due("now(0)", x.now(0), 4);
        due("now(1)", x.now(1), 183);
        due("now(2)", x.now(2), 9);
        due("no STAGE", x.goes(), STATE);
        due("now(0)", x.now(0), 4);
    }

    private static void goesTiring() {
        // LOAD as FORCE is not too much, one more is.
        TentBearers x = told("w5 5;t5 1 0 0 0;s1 0 0;s1 1 0;s1 0 0;s1 0 1;");
        due("goes()", x.goes(), 6);
        due("walker(0, 2)", x.walker(0, 2), 0);
        due("goes()", x.goes(), 7);
        due("walker(0, 2)", x.walker(0, 2), 2);
        due("goes()", x.goes(), 9);
        due("walker(0, 2)", x.walker(0, 2), 4);
        due("goes()", x.goes(), 10);
        due("walker(0, 2)", x.walker(0, 2), 6);
        // TIRED by 2, then more mended than there is.
        TentBearers y = told("w9 5;t1 9 0 0 0;s1 1 1;s1 1 1;");
        due("goes()", y.goes(), 7);
        due("walker(0, 2)", y.walker(0, 2), 2);
        y.leaves(0);
        y.goes();
        due("mends 5, 0 at least", y.walker(0, 2), 0);
        // FOOD that is LEFT BEHIND is not eaten.
        TentBearers z = told("w9 0;t5 0 1 0 0;t5 0 1 0 0;t5 0 0 0 0;s1 0 0;");
        z.leaves(0);
        z.goes();
        due("thing(0, 5)", z.thing(0, 5), 5);
        due("thing(1, 5)", z.thing(1, 5), 3);
        due("thing(2, 5)", z.thing(2, 5), 5);
        due("now(2)", z.now(2), 0);
        // Eaten from the first of the ROW and from the next.
        TentBearers v = told("w9 0;w9 0;t3 0 1 0 1;t9 0 1 0 0;s1 0 0;");
        v.goes();
        due("thing(0, 5)", v.thing(0, 5), 0);
        due("thing(1, 5)", v.thing(1, 5), 8);
    }

    private static void undo() {
        promise = 11;
        TentBearers x = told(LONG_WAY);
        due("none", x.undo(), STATE);
        x.goes();
        x.goes();
        due("gives(0, 1)", x.gives(0, 1), 0);
        x.leaves(1);
        due("undo()", x.undo(), 3);
        due("thing(1, 4)", x.thing(1, 4), 1);
        due("undo()", x.undo(), 2);
        due("thing(0, 4)", x.thing(0, 4), 0);
        due("now(7)", x.now(7), 0);
        due("undo()", x.undo(), 1);
        due("now(0)", x.now(0), 1);
        due("now(1)", x.now(1), 36);
        due("thing(0, 6)", x.thing(0, 6), 0);
        due("thing(2, 5)", x.thing(2, 5), 3);
        due("walker(1, 2)", x.walker(1, 2), 0);
        due("undo()", x.undo(), 0);
        due("now(1)", x.now(1), 0);
        due("thing(2, 5)", x.thing(2, 5), 9);
        due("none", x.undo(), STATE);
        TentBearers y = told(TWO);
        for (int i = 0; i < 13; i++) {
            y.gives(0, (i + 1) % 2);
        }
        due("10 are known", y.count(4), 10);
        for (int i = 9; i >= 0; i--) {
            due("undo()", y.undo(), i);
        }
        due("older ones are lost", y.undo(), STATE);
        due("now(7)", y.now(7), 3);
        due("thing(0, 4)", y.thing(0, 4), 1);
    }

    private static void now() {
        promise = 12;
        TentBearers x = told("w20 0;w10 0;t9 0 0 1 0;t4 5 0 1 0;t3 0 0 2 0;t1 0 0 3 1;t2 0 0 3 0;t6 0 0 0 1;s5 1 1;s5 0 0;");
        due("now(3)", x.now(3), 1);
        due("now(4)", x.now(4), 18 - 7);
        due("now(5)", x.now(5), 1);
        due("now(6)", x.now(6), 8);
        x.gives(0, 1);
        due("now(4)", x.now(4), 16 - 9);
        due("now(5)", x.now(5), 11 + 6);
        due("now(6)", x.now(6), 2 + 8);
        due("now(7)", x.now(7), 1);
        x.gives(4, 1);
        due("now(6)", x.now(6), 2);
        x.leaves(0);
        due("one is LEFT BEHIND", x.now(6), 2);
        x.leaves(1);
        due("both are LEFT BEHIND", x.now(6), 0);
        x.leaves(2);
        due("one alone", x.now(6), 0);
        due("goes()", x.goes(), 28);
        due("now(0)", x.now(0), 1);
        due("now(1)", x.now(1), 28);
        due("now(2)", x.now(2), 4);
        due("now(3)", x.now(3), 1);
        due("goes()", x.goes(), 28);
        due("now(1)", x.now(1), 56);
        due("now(2)", x.now(2), 8);
        due("now(3)", x.now(3), 0);
        due("now(-1)", x.now(-1), BAD);
        due("now(8)", x.now(8), BAD);
        for (int far : FAR) {
            due("now", x.now(far), BAD);
        }
    }

    private static void rest() {
        promise = 13;
        TentBearers x = told(LONG_WAY);
        due("rest(0)", x.rest(0), 183);
        due("rest(1)", x.rest(1), 9);
        due("nothing is changed", x.now(0), 0);
        due("nothing is changed", x.thing(2, 5), 9);
        x.goes();
        x.goes();
        x.goes();
        due("rest(0)", x.rest(0), 20);
        due("rest(1)", x.rest(1), 6);
        x.goes();
        due("rest(0)", x.rest(0), 0);
        due("rest(1)", x.rest(1), 0);
        due("rest(-1)", x.rest(-1), BAD);
        due("rest(2)", x.rest(2), BAD);
        for (int far : FAR) {
            due("rest", x.rest(far), BAD);
        }
    }

    private static void spent() {
        promise = 14;
        due("spent(0)", told(LONG_WAY).spent(0), NONE);
        due("spent(1)", told(LONG_WAY).spent(1), NONE);
        // Both have PACE 1 in the rain of DAY 1, not on DAY 0.
        TentBearers x = told("w9 0;w9 0;t9 9 0 0 1;t9 9 0 0 0;s1 0 0;s1 1 0;s1 0 0;");
        due("spent(0)", x.spent(0), 0);
        due("spent(1)", x.spent(1), 1);
        due("nothing is changed", x.now(0), 0);
        x.goes();
        due("spent(1)", x.spent(1), 1);
        x.goes();
        due("spent(0)", x.spent(0), 0);
        due("spent(1)", x.spent(1), 2);
        x.goes();
        due("none to come", x.spent(0), NONE);
        // The second is spent on an earlier STAGE.
        TentBearers y = told("w10 0;w1 0;t13 0 0 0 0;t10 0 0 0 1;s1 0 0;s1 0 0;s1 0 0;s1 0 0;");
        due("spent(0)", y.spent(0), 1);
        due("spent(1)", y.spent(1), 0);
        y.gives(1, 0);
        due("spent(0)", y.spent(0), 0);
        y.undo();
        y.leaves(1);
        due("7, 5, 3, 1", y.spent(0), 0);
        due("7, 5, 3, 1", y.spent(1), 3);
        due("spent(-1)", y.spent(-1), BAD);
        due("spent(2)", y.spent(2), BAD);
        for (int far : FAR) {
            due("spent", y.spent(far), BAD);
        }
    }

    private static void soonest() {
        promise = 15;
        TentBearers x = told("w10 0;w10 0;t8 0 0 0 0;t4 0 0 0 0;s10 0 0;");
        due("soonest(-1)", x.soonest(-1), 50);
        due("soonest(-2)", x.soonest(-2), 4);
        due("soonest(0)", x.soonest(0), 0);
        due("soonest(1)", x.soonest(1), 1);
        due("nothing is changed", x.thing(1, 4), 0);
        due("soonest(2)", x.soonest(2), BAD);
        due("soonest(-3)", x.soonest(-3), BAD);
        for (int far : FAR) {
            due("soonest", x.soonest(far), BAD);
        }
        x.leaves(0);
        due("soonest(0)", x.soonest(0), 9);
        due("soonest(-1)", x.soonest(-1), 38);
        due("soonest(-2)", x.soonest(-2), 4);
        due("soonest(1)", x.soonest(1), 0);
        x.goes();
        due("no STAGE", x.soonest(-1), NONE);
        due("no STAGE", x.soonest(0), NONE);
        due("BAD ahead of NONE", x.soonest(2), BAD);
        // The LOADS are those in the rain: 14 and 6, not 5 and 6.
        TentBearers y = told("w10 0;w10 0;t5 9 0 0 0;t6 0 0 0 0;s10 1 0;");
        due("soonest(-1)", y.soonest(-1), 100);
        due("soonest(-2)", y.soonest(-2), 8);
        // All ways take as long (PACE 20), so the difference decides: 6 and 3, 3.
        TentBearers z = told("w40 0;w40 0;t3 0 0 0 0;t3 0 0 0 0;t6 0 0 0 0;s10 0 0;");
        due("soonest(-1)", z.soonest(-1), 30);
        due("soonest(-2)", z.soonest(-2), 0);
        due("soonest(0)", z.soonest(0), 0);
        due("soonest(1)", z.soonest(1), 0);
        due("soonest(2)", z.soonest(2), 1);
        // The stronger one carries both: the MINUTES come ahead of the difference.
        TentBearers v = told("w1 0;w30 0;t5 0 0 0 0;t5 0 0 0 0;s20 0 0;");
        due("soonest(-1)", v.soonest(-1), 110);
        due("soonest(-2)", v.soonest(-2), 10);
        due("soonest(0)", v.soonest(0), 1);
        due("soonest(1)", v.soonest(1), 1);
    }

    private static void helps() {
        promise = 16;
        TentBearers x = told("w10 0;w10 0;t8 0 0 0 0;t4 0 0 0 0;s10 0 0;");
        due("of several the least", x.helps(), 1);
        due("nothing is changed", x.thing(0, 4), 0);
        x.gives(1, 1);
        due("none is quicker", x.helps(), NONE);
        x.goes();
        due("no STAGE", x.helps(), NONE);
        TentBearers y = told("w10 0;w20 0;t4 0 0 0 0;t8 0 0 0 0;s10 0 0;");
        due("the greater one", y.helps(), 11);
        y.leaves(1);
        due("what is LEFT BEHIND is not GIVEN", y.helps(), 1);
        // Dry both are alike; in the rain the second is heavier.
        TentBearers z = told("w10 0;w30 0;t4 0 0 0 0;t4 4 0 0 0;s10 1 0;");
        due("in the rain", z.helps(), 11);
    }

    private static void leave() {
        promise = 17;
        TentBearers x = told("w10 0;t8 0 0 0 0;t4 0 0 0 0;t4 0 1 0 0;s10 0 0;");
        int[][] want = {{999, 0, 0}, {150, 0, 0}, {149, 2, 4}, {75, 2, 4}, {74, 1, 8}, {50, 1, 8}, {49, 3, 12}, {38, 3, 12},
            {37, NONE, NONE}, {0, NONE, NONE}};
        for (int[] row : want) {
            due("leave(" + row[0] + ", 0)", x.leave(row[0], 0), row[1]);
            due("leave(" + row[0] + ", 1)", x.leave(row[0], 1), row[2]);
        }
        due("nothing is changed", x.walker(0, 3), 16);
        due("leave(-1, 0)", x.leave(-1, 0), BAD);
        due("leave(1000, 0)", x.leave(1000, 0), BAD);
        due("leave(0, 2)", x.leave(0, 2), BAD);
        due("leave(0, -1)", x.leave(0, -1), BAD);
        for (int far : FAR) {
            due("leave", x.leave(far == 100 ? 1001 : far, 0), BAD);
            due("leave", x.leave(0, far), BAD);
        }
        x.goes();
        due("no STAGE", x.leave(999, 0), NONE);
        due("no STAGE", x.leave(999, 1), NONE);
        due("BAD ahead of NONE", x.leave(1000, 1), BAD);
        TentBearers y = told("w10 0;t4 0 0 0 0;t4 0 0 0 0;s10 0 0;");
        due("the least bits", y.leave(49, 0), 1);
        // In the rain the lighter one, of 3 pounds, weighs 12.
        TentBearers z = told("w10 0;t4 0 0 0 0;t3 9 0 0 0;s10 1 0;");
        due("leave(99, 0)", z.leave(99, 0), 2);
        due("leave(99, 1)", z.leave(99, 1), 3);
    }

    private static void eat() {
        promise = 18;
        // The second carries FOOD that slows them.
        TentBearers x = told("w30 0;w10 0;t4 0 1 0 0;t4 0 1 0 1;s10 0 0;s10 0 0;");
        due("rest(0)", x.rest(0), 76);
        due("eat(0)", x.eat(0), 21);
        due("eat(1)", x.eat(1), 68);
        due("nothing is changed", x.thing(1, 5), 4);
        x.goes();
        due("of several the least", x.eat(0), 12);
        due("eat(1)", x.eat(1), 38);
        x.goes();
        due("eat(0) at the end", x.eat(0), 12);
        due("eat(1) at the end", x.eat(1), 0);
        due("eat(-1)", x.eat(-1), BAD);
        due("eat(2)", x.eat(2), BAD);
        for (int far : FAR) {
            due("eat", x.eat(far), BAD);
        }
        // What is LEFT BEHIND is told too, and what is no FOOD is not.
        TentBearers y = told("w30 0;w10 0;t9 0 1 0 0;t1 0 0 0 0;t4 0 1 0 0;t4 0 1 0 1;s10 0 0;s10 0 0;");
        y.leaves(0);
        due("eat(0)", y.eat(0), 143);
        due("eat(1)", y.eat(1), 68);
        due("no FOOD", told(TWO).eat(0), 0);
        due("no FOOD", told(TWO).eat(1), 75);
        // Only the last one, of 2, must be eaten first: it soaks most.
        due("the last first", told("w10 0;t2 0 1 0 0;t2 0 1 0 0;t2 9 1 0 0;s10 1 0;s10 1 0;").eat(0), 312);
        // Two that are eaten on one evening stand by their numbers.
        due("3 and 2 on one evening", told("w30 0;w10 0;t4 0 1 0 0;t2 0 1 0 1;t2 0 1 0 1;s10 0 0;s10 0 0;").eat(0), 231);
        String seven = "w40 5;w40 5;w40 5;w40 5;t20 9 1 1 0;t20 9 1 1 0;t20 9 1 2 0;t20 9 1 2 0;t20 9 1 3 0;t20 9 1 3 0;"
            + "t20 9 1 0 0;";
        due("all alike", told(seven + "s20 1 0;s20 1 0;s20 1 0;s20 1 0;s20 1 0;s20 1 0;s20 1 0;s20 1 0;").eat(0), 1234567);
    }

    private static void truly() {
        promise = 19;
        TentBearers x = told("w10 0;w20 0;t11 0 0 0 0;s1 0 0;");
        int[][] want = {{0, 40, 5, 5}, {0, 30, 0, 0}, {1, 30, 0, 10}, {0, 600, 19, 99}, {1, 600, 29, 99}, {0, 39, NONE, NONE},
            {0, 29, NONE, NONE}, {0, 601, NONE, NONE}};
        for (int[] row : want) {
            due("truly(" + row[0] + ", 10, " + row[1] + ", 0)", x.truly(row[0], 10, row[1], 0), row[2]);
            due("truly(" + row[0] + ", 10, " + row[1] + ", 1)", x.truly(row[0], 10, row[1], 1), row[3]);
        }
        due("of length 1 several take as long", x.truly(0, 1, 4, 0), 1);
        due("of length 1 several take as long", x.truly(0, 1, 4, 1), 5);
        x.goes();
        due("he is TIRED now", x.truly(0, 10, 40, 0), 3);
        due("truly(2, 1, 1, 0)", x.truly(2, 1, 1, 0), BAD);
        due("truly(-1, 1, 1, 0)", x.truly(-1, 1, 1, 0), BAD);
        due("truly(0, 0, 1, 0)", x.truly(0, 0, 1, 0), BAD);
        due("truly(0, 21, 1, 0)", x.truly(0, 21, 1, 0), BAD);
        due("truly(0, 1, 0, 0)", x.truly(0, 1, 0, 0), BAD);
        due("truly(0, 1, 1000, 0)", x.truly(0, 1, 1000, 0), BAD);
        due("truly(0, 1, 1, 2)", x.truly(0, 1, 1, 2), BAD);
        due("truly(0, 1, 1, -1)", x.truly(0, 1, 1, -1), BAD);
        due("truly(0, 20, 999, 0)", x.truly(0, 20, 999, 0), NONE);
    }

    private static void odds() {
        promise = 20;
        // 40 dry, 60 wet; what rained on stays wet on the next STAGE: 80, 100, 120, 120.
        TentBearers x = told("w10 0;t5 5 0 0 0;s10 1 0;s10 1 0;");
        long[][] want = {{3, 80, 49, 100}, {3, 100, 7, 10}, {3, 119, 7, 10}, {3, 120, 1, 1}, {3, 79, 0, 1}, {5, 80, 1, 4},
            {5, 99, 1, 4}, {5, 100, 1, 2}, {10, 119, 0, 1}, {10, 120, 1, 1}, {0, 80, 1, 1}, {0, 79, 0, 1}, {0, 0, 0, 1},
            {7, 9999, 1, 1}, {2, 80, 16, 25}};
        for (long[] row : want) {
            due("odds(" + row[0] + ", " + row[1] + ", 0)", x.odds((int) row[0], (int) row[1], 0), row[2]);
            due("odds(" + row[0] + ", " + row[1] + ", 1)", x.odds((int) row[0], (int) row[1], 1), row[3]);
        }
        due("nothing is changed", x.thing(0, 6), 0);
        x.goes();
        due("one STAGE, wet", x.odds(3, 59, 0), 0);
        due("one STAGE, wet", x.odds(3, 60, 0), 1);
        x.goes();
        due("no STAGE", x.odds(3, 0, 0), 1);
        due("no STAGE", x.odds(3, 0, 1), 1);
        due("odds(-1, 0, 0)", x.odds(-1, 0, 0), BAD);
        due("odds(11, 0, 0)", x.odds(11, 0, 0), BAD);
        due("odds(0, -1, 0)", x.odds(0, -1, 0), BAD);
        due("odds(0, 10000, 0)", x.odds(0, 10000, 0), BAD);
        due("odds(0, 0, -1)", x.odds(0, 0, -1), BAD);
        due("odds(0, 0, 2)", x.odds(0, 0, 2), BAD);
        // 8 STAGES: only without any rain ahead of the last are all at PACE 20.
        TentBearers y = told("w10 0;t1 9 1 0 0;s1 0 0;s1 0 0;s1 0 0;s1 0 0;s1 0 0;s1 0 0;s1 0 0;s1 0 0;");
        due("odds(3, 25, 0)", y.odds(3, 25, 0), 7);
        due("odds(3, 25, 1)", y.odds(3, 25, 1), 10);
        TentBearers z = told("w10 0;t1 9 0 0 0;s1 0 0;s1 0 0;s1 0 0;s1 0 0;s1 0 0;s1 0 0;s1 0 0;s1 0 0;");
        due("odds(3, 32, 0)", z.odds(3, 32, 0), 5764801);
        due("odds(3, 32, 1)", z.odds(3, 32, 1), 100000000);
    }

    private static void book() {
        promise = 21;
        TentBearers x = told(TWO);
        due("book(2, 1, 1)", x.book(2, 1, 1), BAD);
        due("book(-1, 1, 1)", x.book(-1, 1, 1), BAD);
        due("book(0, 0, 1)", x.book(0, 0, 1), BAD);
        due("book(0, 21, 1)", x.book(0, 21, 1), BAD);
        due("book(0, 1, 0)", x.book(0, 1, 0), BAD);
        due("book(0, 1, 1000)", x.book(0, 1, 1000), BAD);
        due("count(3)", x.count(3), 0);
        for (int i = 1; i <= 6; i++) {
            due("book(1, 20, 999)", x.book(1, 20, 999), i);
        }
        due("book(0, 1, 1)", x.book(0, 1, 1), FULL);
        due("BAD ahead of FULL", x.book(0, 1, 0), BAD);
        due("count(3)", x.count(3), 6);
        x.gives(0, 1);
        x.undo();
        due("no part of what is UNDONE", x.count(3), 6);
        promise = 22;
        due("burn()", x.burn(), 6);
        due("burn()", x.burn(), 0);
        due("book(0, 1, 1)", x.book(0, 1, 1), 1);
    }

    private static void sacks() {
        promise = 23;
        TentBearers x = told(TWO);
        due("an empty BOOK", x.sacks(0), 3);
        due("an empty BOOK", x.sacks(1), 1);
        x.book(1, 10, 43);
        due("sacks(0)", x.sacks(0), 1);
        due("sacks(1)", x.sacks(1), 11);
        x.book(0, 10, 50);
        due("both are so", x.sacks(0), 1);
        x.book(0, 10, 51);
        due("not all are so", x.sacks(0), 0);
        due("not all are so", x.sacks(1), NONE);
        x.burn();
        x.book(0, 10, 30);
        due("as it is does not count", x.sacks(0), 0);
        x.burn();
        x.book(1, 10, 30);
        due("sacks(1)", x.sacks(1), 20);
        x.leaves(2);
        due("LEFT BEHIND", x.sacks(0), 0);
        due("nothing is changed", x.walker(0, 3), 12);
        due("sacks(2)", x.sacks(2), BAD);
        due("sacks(-1)", x.sacks(-1), BAD);
        for (int far : FAR) {
            due("sacks", x.sacks(far), BAD);
        }
        // As TIRED as he is when asked: FORCE 8 with a LOAD of 4 makes PACE 14.
        TentBearers y = told(TWO);
        y.book(0, 10, 43);
        due("sacks(1)", y.sacks(1), NONE);
        y.goes();
        due("walker(0, 2)", y.walker(0, 2), 2);
        due("sacks(1)", y.sacks(1), 1);
    }

    private static void mark() {
        promise = 24;
        TentBearers x = told("w20 0;w20 0;t9 4 1 0 0;t6 5 0 0 0;s5 1 1;s5 1 1;");
        x.gives(1, 1);
        x.gives(1, 0);
        x.gives(1, 1);
        x.goes();
        x.goes();
        // THING 0: 1 LEFT, WET: weighs 5. THING 1: weighs 11. DAY 2, GIVEN 3 times.
        int[][] want = {{5, 11}, {9, 16}, {-4, 5}, {18, 32}, {-2, 7}, {8, 14}};
        long[] traced = {1, 11, 101, 1011, 10101, 100001};
        long trace = 0;
        for (int kind = 0; kind <= 5; kind++) {
            for (int t = 0; t < 2; t++) {
                due("mark(" + kind + ", " + t + ")", x.mark(kind, t), want[kind][t]);
                trace += traced[kind];
                promise = 28;
                due("trace()", x.trace(), trace);
                promise = 24;
            }
        }
        due("mark(-1, 0)", x.mark(-1, 0), NO);
        due("mark(6, 0)", x.mark(6, 0), NO);
        due("mark(0, -1)", x.mark(0, -1), NO);
        due("mark(0, 2)", x.mark(0, 2), NO);
        for (int far : FAR) {
            due("mark", x.mark(far, 0), NO);
            due("mark", x.mark(0, far), NO);
        }
        promise = 28;
        due("nothing asked", x.trace(), trace);
        x.keep(0);
        x.undo();
        x.back(0);
        due("no part of an IMAGE", x.trace(), trace);
    }

    private static void images() {
        promise = 25;
        TentBearers x = told(LONG_WAY);
        due("keep(-1)", x.keep(-1), BAD);
        due("keep(2)", x.keep(2), BAD);
        due("keep(0)", x.keep(0), 0);
        x.goes();
        x.goes();
        x.gives(0, 1);
        x.leaves(1);
        x.book(0, 1, 1);
        due("keep(1)", x.keep(1), 2);
        promise = 26;
        due("back(0)", x.back(0), 0);
        due("now(1)", x.now(1), 0);
        due("now(7)", x.now(7), 0);
        due("thing(0, 4)", x.thing(0, 4), 0);
        due("thing(1, 4)", x.thing(1, 4), 1);
        due("thing(0, 6)", x.thing(0, 6), 0);
        due("thing(2, 5)", x.thing(2, 5), 9);
        due("walker(1, 2)", x.walker(1, 2), 0);
        due("count(4)", x.count(4), 0);
        due("THE BOOK stays", x.count(3), 1);
        x.goes();
        due("back(1)", x.back(1), 2);
        due("now(1)", x.now(1), 96);
        due("now(7)", x.now(7), 1);
        due("thing(0, 4)", x.thing(0, 4), 1);
        due("thing(1, 4)", x.thing(1, 4), 9);
        due("thing(0, 6)", x.thing(0, 6), 1);
        due("walker(1, 2)", x.walker(1, 2), 2);
        due("undo()", x.undo(), 3);
        due("undo()", x.undo(), 2);
        due("undo()", x.undo(), 1);
        due("now(1)", x.now(1), 36);
        x.goes();
        x.goes();
        due("an IMAGE may be taken twice", x.back(1), 2);
        due("count(4)", x.count(4), 4);
        due("undo()", x.undo(), 3);
        due("thing(1, 4)", x.thing(1, 4), 1);
        due("back(2)", x.back(2), BAD);
        due("back(-1)", x.back(-1), BAD);
        for (int far : FAR) {
            due("keep", x.keep(far), BAD);
            due("back", x.back(far), BAD);
        }
        // More than are known, so that the ring of them is written over behind the IMAGE.
        TentBearers z = told(TWO);
        for (int i = 0; i < 12; i++) {
            z.gives(0, (i + 1) % 2);
        }
        z.keep(0);
        for (int i = 0; i < 11; i++) {
            z.gives(1, (i + 1) % 2);
        }
        due("back(0)", z.back(0), 0);
        for (int i = 9; i >= 0; i--) {
            due("undo()", z.undo(), i);
            due("thing(0, 4)", z.thing(0, 4), i % 2 == 0 ? 0 : 1);
            due("thing(1, 4)", z.thing(1, 4), 0);
            due("now(7)", z.now(7), i + 2);
        }
        TentBearers y = told(TWO);
        y.keep(1);
        due("none was kept", y.back(0), STATE);
        due("BAD ahead of STATE", y.back(2), BAD);
        type(y, "ab");
        y.back(1);
        due("THE TEXT stays", y.count(5), 2);
    }

    private static void count() {
        promise = 27;
        TentBearers x = told(LONG_WAY);
        x.book(0, 1, 1);
        x.book(0, 1, 1);
        x.goes();
        type(x, "wwwwwww");
        int[] want = {3, 5, 4, 2, 1, 7};
        for (int what = 0; what <= 5; what++) {
            due("count(" + what + ")", x.count(what), want[what]);
        }
        due("count(-1)", x.count(-1), BAD);
        due("count(6)", x.count(6), BAD);
        for (int far : FAR) {
            due("count", x.count(far), BAD);
        }
    }

    /** STAGES without WALKERS, WALKERS without THINGS. */
    private static void nobody() {
        promise = 10;
        TentBearers x = told("s5 1 0;s7 0 1;");
        due("rest(0)", x.rest(0), 0);
        due("rest(1)", x.rest(1), 0);
        due("spent(0)", x.spent(0), NONE);
        due("soonest(-1)", x.soonest(-1), NONE);
        due("helps()", x.helps(), NONE);
        due("leave(0, 0)", x.leave(0, 0), 0);
        due("eat(0)", x.eat(0), 0);
        due("eat(1)", x.eat(1), 0);
        due("odds(5, 0, 0)", x.odds(5, 0, 0), 1);
        due("odds(5, 0, 1)", x.odds(5, 0, 1), 1);
        due("now(4)", x.now(4), 0);
        due("now(5)", x.now(5), 0);
        due("goes()", x.goes(), 0);
        due("now(3)", x.now(3), 0);
        due("goes()", x.goes(), 0);
        due("now(3)", x.now(3), 1);
        due("goes()", x.goes(), STATE);
        due("undo()", x.undo(), 1);
        TentBearers y = told("w5 1;s1 0 0;");
        due("soonest(-1)", y.soonest(-1), 4);
        due("soonest(-2)", y.soonest(-2), 0);
        due("helps()", y.helps(), NONE);
        due("leave(4, 0)", y.leave(4, 0), 0);
        due("leave(3, 0)", y.leave(3, 0), NONE);
        due("sacks(0)", y.sacks(0), 0);
        due("rest(1)", y.rest(1), 2);
    }
}

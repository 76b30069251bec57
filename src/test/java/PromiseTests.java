/** One piece per promise: ordinary inputs, edges and refusals, with answers worked out by hand from the document. */
public final class PromiseTests {
    private static final long NO = Long.MIN_VALUE;
    private static int wrong = 0;
    private static int promise = 0;
    private static int asked = 0;

    private static void due(String call, long got, long want) {
        asked++;
        if (got != want) {
            wrong++;
            System.out.println("promise " + promise + ": " + call + " answered " + got + ", due is " + want);
        }
    }

    private static int read(FastClock x, String text) {
        for (int i = 0; i < text.length(); i++) x.feed(text.charAt(i));
        return x.house();
    }

    /** People of these kinds and v, two digits each. */
    private static FastClock with(String people) {
        FastClock x = new FastClock();
        for (int i = 0; i + 1 < people.length(); i += 3) x.person(people.charAt(i) - '0', people.charAt(i + 1) - '0');
        return x;
    }

    public static void main(String[] args) {
        housesPeopleClocks();
        daysToCome();
        settings();
        tellings();
        seenOddsRulesBooks();
        actsAndImage();
        System.out.println(wrong == 0 ? asked + " answers are as due" : wrong + " answers are not as due");
        if (wrong != 0) System.exit(1);
    }

    private static void housesPeopleClocks() {
        newObject();
        feed();
        house();
        houseFaults();
        houseTests();
        person();
        of();
        use();
        believe();
        row();
        set();
        hear();
        tell();
        told();
        day();
    }

    private static void newObject() {
        promise = 1;
        FastClock x = new FastClock();
        int[] first = {0, 0, 0, 3, 1};
        for (int i = 0; i < 5; i++) due("told(" + i + ")", x.told(i), first[i]);
        due("told(10)", x.told(10), 0);
        due("told(11)", x.told(11), 0);
        for (int i = 0; i < 7; i++) due("count(" + i + ")", x.count(i), 0);
        due("undo()", x.undo(), -3);
        due("trace(0)", x.trace(0), -1);
        due("of(0, 0)", x.of(0, 0), -10001);
        due("NO", FastClock.NO, NO);
        due("NONE", FastClock.NONE, -1);
        due("BAD", FastClock.BAD, -2);
        due("STATE", FastClock.STATE, -3);
        due("FULL", FastClock.FULL, -4);
    }

    private static void feed() {
        promise = 2;
        FastClock x = new FastClock();
        due("feed(-1)", x.feed(-1), -2);
        due("feed(128)", x.feed(128), -2);
        due("count(5)", x.count(5), 0);
        due("feed(0)", x.feed(0), 1);
        due("feed(127)", x.feed(127), 2);
        for (int i = 3; i <= 100; i++) due("feed(97)", x.feed(97), i);
        due("feed(97)", x.feed(97), -4);
        due("feed(128) ahead of FULL", x.feed(128), -2);
        due("count(5)", x.count(5), 100);
        due("house()", x.house(), -10);
        due("feed behind a house", x.feed('l'), 1);
    }

    private static void house() {
        promise = 3;
        FastClock x = new FastClock();
        due("the empty tape", x.house(), -10);
        due("late 7", read(x, "late 7"), 0);
        due("the tape is empty", x.count(5), 0);
        due("told(3)", x.told(3), 7);
        due("told(4)", x.told(4), 1);
        due("a fault", read(x, "late 8;"), -17);
        due("the tape is empty", x.count(5), 0);
        due("the one that held holds", x.told(3), 7);
        due("the last n", read(x, "late 4;early 3;late 0;early 9;late 2"), 1);
        due("told(3)", x.told(3), 2);
        due("told(4)", x.told(4), 9);
        due("the newest alone", read(x, "rush 1 p=0"), 2);
        due("told(3)", x.told(3), 3);
        due("told(4)", x.told(4), 1);
        due("late 0", read(x, "late 0;early 0"), 3);
        due("told(3)", x.told(3), 0);
        due("told(4)", x.told(4), 0);
        due("count(1)", x.count(1), 4);
        due("the fifth", read(x, "late 99"), 4);
        due("told(3)", x.told(3), 99);
        due("FULL", read(x, "late 5"), -4);
        due("THE TAPE stays", x.count(5), 6);
        due("feed", x.feed('x'), 7);
        due("FULL ahead of a FAULT", x.house(), -4);
        due("THE TAPE stays", x.count(5), 7);
        due("told(3)", x.told(3), 99);
        due("count(1)", x.count(1), 5);
    }

    private static void houseFaults() {
        FastClock x = new FastClock();
        String[] texts = {"Late 1", "late  1", "late1", "late 01", "late 123", "late 0 ", "late 1 ", "late 1 p=1", "early ", "early 5;;", "erly",
            "rush 5", "rush 5;", "rush 5 ", "rush 5 x=1", "rush 5 p", "rush 5 p!", "rush 5 p=", "rush 5 p=a", "rush 5 p=00", "rush 5 p=123",
            "rush 5 p=1 ", "rush 5 (p=1", "rush 5 p=1)", "rush 5 ()", "rush 5 p=1&", "rush 5 p=1||p=2", "rush 5 !", "rush 5 (!(!(!p=1", "rush 5  p=1",
            "slow 1 (((((p=1)))))", "slow 1 ((((((p=1))))))", "slow 1 !(!(!(p=1)))", "late 1;late 1;late 1;late 1;late 1;late 1;late 1;late 1;late 1;late 1;late 1",
            "late 1;late 1;late 1;late 1;late 1;late 1;late 1;late 1;late 1;late 1;", "rush 5 !!!!!p=1&!!!!!p=2|(((((p=1)))))&!p=3", "rush 5 p<=1", "slow 1 p=1;",
            "slow 1 !(p=1)&!(p=2)|!!!(!(p=3))", "slow 1 !(!!!(p=1&!p=2))", "slow 1 !(!!!p=1&!p=2)|(((!(p=3))))", "slow 1 !!!!!p=1|((((!p=2))))"};
        int[] faults = {0, 5, 4, 6, 7, 6, 6, 6, 6, 8, 1,
            6, 6, 7, 7, 8, 8, 9, 9, 10, 11,
            10, 11, 10, 8, 11, 11, 8, 12, 7,
            -1, 12, 12, 69,
            69, -1, 9, 11,
            26, 12, -1, -1};
        for (int i = 0; i < texts.length; i++) {
            x = new FastClock();
            due(texts[i], read(x, texts[i]), faults[i] < 0 ? 0 : -10 - faults[i]);
        }
        StringBuilder longest = new StringBuilder("rush 5 p=1");
        while (longest.length() < 100) longest.append("|p=1".charAt((longest.length() - 10) % 4));
        x = new FastClock();
        due("a tape of 100 that ends too early", read(x, longest.toString()), -110);
        x = new FastClock();
        due("a tape of 98", read(x, longest.substring(0, 98)), 0);
        due("a tape of 96", read(x, longest.substring(0, 96)), -106);
    }

    private static void houseTests() {
        FastClock x = with("00 13 29 60");
        x.use(2, 1);
        read(x, "rush 1 p<1;rush 2 p=2;rush 4 p>2;rush 8 k=1;rush 16 v>3;rush 32 c=1;slow 50 k<1&v=0");
        int[] margins = {1 - 50, 8, 2 + 16 + 32, 4};
        for (int p = 0; p < 4; p++) due("MARGIN of " + p, x.of(p, 4), margins[p]);
        read(x, "rush 1 d=0;rush 2 d=1|d=6;rush 4 s=9;rush 8 s<3&!d=0;slow 16 !(d<6&d>0)");
        int[] days = {1 - 16, 2 + 8, 8, 0, 0, 0, 2 - 16, 1 - 16, 2, 4};
        for (int d = 0; d < 10; d++) {
            due("MARGIN on the day " + d, x.of(0, 4), days[d]);
            x.day();
        }
        x.set(1, 0);
        due("SETS are 0 again", x.of(0, 4), 8);
        // & binds more than |, ! most
        x = with("00 00 00 00");
        read(x, "rush 1 p=0|p=1&p=2;rush 2 (p=0|p=1)&p=1;rush 4 !p=0&p<2;rush 8 !(p=0|p=3);rush 16 !!p=2");
        int[] joined = {1, 2 + 4 + 8, 8 + 16, 0};
        for (int p = 0; p < 4; p++) due("joined MARGIN of " + p, x.of(p, 4), joined[p]);
        read(x, "slow 99 p=0;slow 99 p<9;rush 0 p=0;rush 7 p>99");
        due("slow together", x.of(0, 4), -198);
        due("slow alone", x.of(1, 4), -99);
    }

    private static void person() {
        promise = 4;
        FastClock x = new FastClock();
        due("kind -1", x.person(-1, 0), -1);
        due("kind 7", x.person(7, 10), -1);
        due("v -1", x.person(0, -1), -2);
        due("v 10", x.person(6, 10), -2);
        for (int i = 0; i < 6; i++) due("person", x.person(i + 1, 9 - i), i);
        due("FULL", x.person(0, 0), -4);
        due("NONE ahead of FULL", x.person(7, 0), -1);
        due("BAD ahead of FULL", x.person(0, 10), -2);
        due("count(0)", x.count(0), 6);
        for (int i = 0; i < 6; i++) {
            due("KIND", x.of(i, 0), i + 1);
            due("v", x.of(i, 1), 9 - i);
            due("CLOCK", x.of(i, 2), 0);
            due("BELIEF", x.of(i, 3), 0);
        }
        // who comes behind an undo starts anew
        x = with("60");
        x.image();
        x.person(6, 1);
        x.believe(1, 9);
        x.use(1, 1);
        x.row(1, 0, 5);
        x.undo();
        due("person", x.person(6, 2), 1);
        due("BELIEF", x.of(1, 3), 0);
        due("CLOCK", x.of(1, 2), 0);
        due("ROW", x.row(1, 0, 0), 0);
        due("MARGIN", x.of(1, 4), -2);
    }

    private static void of() {
        promise = 5;
        FastClock x = with("05 15 25 35 45 55");
        for (int p = 0; p < 6; p++) x.believe(p, 20);
        x.set(0, -7);
        x.set(1, 8);
        x.set(0, -14);
        // CHANGE is -7, its half -3; the two are 22 apart
        int[] taken = {0, 20, 25, 0, 17, 14};
        int[] late = {14, 34, 39, 19, 31, 28};
        for (int p = 0; p < 6; p++) {
            due("MARGIN", x.of(p, 4), p == 3 ? -5 : 0);
            due("TAKEN", x.of(p, 5), taken[p]);
            due("LATE", x.of(p, 6), late[p]);
            due("COST", x.of(p, 7), 3 * late[p]);
        }
        x.use(0, 1);
        due("LATE by the other", x.of(0, 6), -8);
        due("COST of one EARLY", x.of(0, 7), 8);
        for (int i = 0; i < 3; i++) {
            due("WISE while SETS are " + i, x.of(4, 5), new int[] {17, 0, -8}[i]);
            x.day();
        }
        // 20, 3, -5, -9: by 5 tenths each day, cut
        due("WISE behind that", x.of(4, 5), -9);
        x.set(1, 9);
        due("CHANCE cuts the half", x.of(5, 5), 25 - 11);
        due("nobody", x.of(6, 0), -10001);
        due("nobody", x.of(-1, 0), -10001);
        due("what 8", x.of(0, 8), -10001);
        due("what -1", x.of(0, -1), -10001);
        x = with("61");
        for (int k = 0; k < 4; k++) x.row(0, k, 2 * k + 1);
        for (int d = 0; d < 6; d++) {
            due("TOLD on day " + d, x.of(0, 5), 2 * (d % 4) + 1);
            due("LATE on day " + d, x.of(0, 6), 2 * (d % 4) + 2);
            x.day();
        }
    }

    private static void use() {
        promise = 6;
        FastClock x = with("11");
        x.believe(0, 4);
        due("use(1, 0)", x.use(1, 0), -1);
        due("use(-1, 0)", x.use(-1, 0), -1);
        due("use(0, 2)", x.use(0, 2), -1);
        due("use(0, -1)", x.use(0, -1), -1);
        due("use(0, 1)", x.use(0, 1), 0);
        due("use(0, 1)", x.use(0, 1), 1);
        due("BELIEF stays", x.of(0, 3), 4);
        due("CLOCK", x.of(0, 2), 1);
        due("use(0, 0)", x.use(0, 0), 1);
    }

    private static void believe() {
        promise = 7;
        FastClock x = with("11");
        due("nobody", x.believe(1, 61), -10001);
        due("nobody", x.believe(-1, 0), -10001);
        due("61", x.believe(0, 61), -10002);
        due("-61", x.believe(0, -61), -10002);
        due("60", x.believe(0, 60), 0);
        due("-60", x.believe(0, -60), 60);
        due("BELIEF", x.of(0, 3), -60);
    }

    private static void row() {
        promise = 8;
        FastClock x = with("30 65");
        due("nobody", x.row(2, 0, 10), -1);
        due("nobody", x.row(-1, 0, 0), -1);
        due("k 4", x.row(0, 4, 10), -1);
        due("k -1", x.row(1, -1, 0), -1);
        due("BAD ahead of STATE", x.row(0, 0, 10), -2);
        due("-1", x.row(1, 0, -1), -2);
        due("another KIND", x.row(0, 0, 5), -3);
        due("row", x.row(1, 3, 9), 0);
        due("row", x.row(1, 3, 2), 9);
        due("row", x.row(1, 0, 0), 0);
        due("row", x.row(1, 3, 2), 2);
    }

    private static void set() {
        promise = 9;
        FastClock x = new FastClock();
        x.day();
        due("clock 2", x.set(2, 61), -10001);
        due("clock -1", x.set(-1, 0), -10001);
        due("61", x.set(0, 61), -10002);
        due("-61", x.set(0, -61), -10002);
        due("SETS", x.told(1), 1);
        due("set(1, -60)", x.set(1, -60), -60);
        due("SETS", x.told(1), 0);
        due("CHANGE", x.told(2), -60);
        due("set(1, 60)", x.set(1, 60), 120);
        due("set(0, 5)", x.set(0, 5), 5);
        due("set(0, 5)", x.set(0, 5), 0);
        due("CHANGE", x.told(2), 0);
        due("FAST 0", x.told(10), 5);
        due("FAST 1", x.told(11), 60);
    }

    private static void hear() {
        promise = 10;
        FastClock x = with("00 11");
        x.set(0, 12);
        x.set(1, -3);
        x.use(1, 1);
        due("hear(0)", x.hear(0), 12);
        due("hear(1)", x.hear(1), -3);
        due("BELIEF", x.of(1, 3), -3);
        due("hear(2)", x.hear(2), -10001);
        due("hear(-1)", x.hear(-1), -10001);
    }

    private static void tell() {
        promise = 11;
        FastClock x = with("00 11 22");
        x.believe(0, 7);
        due("both nobody", x.tell(3, 3), -10001);
        due("nobody", x.tell(0, -1), -10001);
        due("nobody", x.tell(3, 0), -10001);
        due("one is both", x.tell(1, 1), -10002);
        x.use(2, 1);
        due("two CLOCKS", x.tell(0, 2), -10003);
        due("BELIEF", x.of(2, 3), 0);
        due("tell(0, 1)", x.tell(0, 1), 7);
        due("BELIEF", x.of(1, 3), 7);
        x.believe(1, -4);
        due("tell(1, 0)", x.tell(1, 0), -4);
        due("BELIEF", x.of(0, 3), -4);
    }

    private static void told() {
        promise = 12;
        FastClock x = with("00");
        x.set(1, 6);
        x.set(0, -9);
        for (int i = 0; i < 12; i++) x.day();
        read(x, "early 8;late 6");
        int[] whats = {0, 1, 2, 3, 4, 10, 11, 5, 9, 12, -1};
        long[] answers = {12, 9, -9, 6, 8, -9, 6, -10001, -10001, -10001, -10001};
        for (int i = 0; i < whats.length; i++) due("told(" + whats[i] + ")", x.told(whats[i]), answers[i]);
    }

    private static void day() {
        promise = 13;
        FastClock x = with("00 13 47 35");
        x.set(0, 11);
        x.set(1, -8);
        x.use(3, 1);
        // LATE -11, -11, 0 - 4 - 11, 0 + 8 + 5
        due("day()", x.day(), 11 + 11 + 15 + 39);
        due("LEARNING", x.of(1, 3), 3);
        due("WISE", x.of(2, 3), 7);
        due("PERSON", x.of(0, 3), 0);
        due("DAY", x.told(0), 1);
        due("SETS", x.told(1), 1);
        due("what it will cost", x.on(1, 0), 11 + 8 + 8 + 39);
        // LATE -11, 3 - 11, 7 - 4 - 11, 13
        due("day()", x.day(), 11 + 8 + 8 + 39);
        due("LEARNING", x.of(1, 3), 3 + 2);
        due("WISE", x.of(2, 3), 7 + 2);
        x.believe(1, -60);
        x.set(0, -11);
        x.day();
        due("cut toward 0", x.of(1, 3), -60 + 14);
        x.believe(1, 0);
        x.day();
        due("cut toward 0", x.of(1, 3), -3);
        x = with("00 00");
        x.set(0, 5);
        due("all EARLY", x.day(), 10);
        x.set(0, -5);
        due("all LATE", x.day(), 30);
        due("nobody", new FastClock().day(), 0);
        endOfDays();
    }

    /** 9999 days are more calls than an object is promised for; what is asked goes on beyond its days all the same. */
    private static void endOfDays() {
        FastClock x = with("60");
        x.row(0, 3, 5);
        for (int i = 0; i < 9999; i++) {
            if (x.day() < 0) due("day() ahead of 9999", x.told(0), -1);
        }
        due("day()", x.day(), -3);
        due("SETS", x.told(1), 9);
        due("on beyond 9999", x.on(1, 0), 15);
        due("on beyond 9999", x.on(5, 0), 30);
        due("DAY", x.told(0), 9999);
    }

    private static void daysToCome() {
        promise = 14;
        FastClock x = with("15 29");
        x.set(0, 20);
        x.use(1, 1);
        // LEARNING -20, -10, -5, -3 (17 of 20), -2: BELIEF 0, 10, 15, 17, 18, 19, 19
        int[] beliefs = {0, 10, 15, 17, 18, 19, 19, 19};
        int cost = 0;
        for (int n = 0; n < 8; n++) {
            due("on COST", x.on(n, 0), cost);
            due("on LATE", x.on(n, 10), beliefs[n] - 20);
            due("on BELIEF", x.on(n, 20), beliefs[n]);
            due("on LATE", x.on(n, 11), 9);
            due("on BELIEF", x.on(n, 21), 0);
            cost += 20 - beliefs[n] + 27;
        }
        due("on(30)", x.on(30, 0), 20 + 10 + 5 + 3 + 2 + 25 + 30 * 27);
        due("n -1", x.on(-1, 0), -10002);
        due("n 31", x.on(31, 21), -10002);
        for (int what : new int[] {-1, 1, 9, 12, 19, 22, 30}) due("on what " + what, x.on(31, what), -10001);
        due("nothing changed", x.told(0), 0);
        due("nothing changed", x.of(0, 3), 0);

        promise = 15;
        due("one is never in time", x.inTime(), -5);
        x = with("18");
        x.believe(0, 40);
        // 40, 8, 2, 1, 1: never less than 1 more
        due("inTime()", x.inTime(), -5);
        x.set(0, 1);
        due("inTime()", x.inTime(), -5);
        x.believe(0, 1);
        due("inTime()", x.inTime(), 0);
        x = with("19 00");
        x.believe(0, 30);
        read(x, "rush 3 d<9");
        due("inTime()", x.inTime(), 1);
        read(x, "rush 30 d=6");
        due("inTime()", x.inTime(), 6);
        read(x, "slow 1 s<9;rush 1 p=0&!s<9");
        due("inTime()", x.inTime(), 9);
        due("nobody", new FastClock().inTime(), 0);
        // 120 LATE, a tenth less each day, cut: 10 behind 28 days, 9 from the 29th on
        x = with("11");
        x.believe(0, 60);
        x.set(0, -60);
        read(x, "rush 9 d=1");
        due("behind 29", x.inTime(), 29);
        read(x, "rush 9 d=2");
        due("behind 30", x.inTime(), 30);
        read(x, "rush 9 d=0");
        due("not by then", x.inTime(), -5);
        x = with("00");
        x.set(1, 1);
        for (int i = 0; i < 6; i++) x.day();
        read(x, "slow 1 s<9|d<6");
        due("inTime()", x.inTime(), 7);

        promise = 16;
        due("nobody", new FastClock().worst(), -5);
        x = with("00 31 32 32");
        due("worst()", x.worst(), 2);
        x.set(0, 30);
        due("worst()", x.worst(), 2);
        x.use(0, 1);
        due("worst()", x.worst(), 0);
        x = with("00 00");
        x.set(0, 60);
        due("worst()", x.worst(), 0);

        promise = 17;
        x = with("32 00 31 00 31");
        int[] order = {1, 3, 2, 4, 0};
        for (int k = 0; k < 5; k++) due("order(" + k + ")", x.order(k), order[k]);
        due("order(5)", x.order(5), -1);
        due("order(-1)", x.order(-1), -1);
        due("nobody", new FastClock().order(0), -1);
    }

    private static void settings() {
        promise = 18;
        FastClock x = with("39");
        due("best", x.best(0, 1, 0), 9);
        due("its COST", x.best(0, 1, 1), 0);
        due("best of the other", x.best(1, 5, 0), -30);
        due("its COST", x.best(1, 5, 1), 135);
        x = with("15");
        x.believe(0, 40);
        // one day: LATE 0 by 40
        due("best", x.best(0, 1, 0), 40);
        due("best", x.best(0, 1, 1), 0);
        read(x, "slow 99 p=0");
        due("as far as it goes", x.best(0, 1, 0), 60);
        due("COST", x.best(0, 1, 1), 3 * (40 + 99 - 60));
        read(x, "rush 99 p=0");
        due("as far as it goes", x.best(0, 20, 0), -30);
        read(x, "late 0;early 0");
        due("the least of several", x.best(0, 20, 0), -30);
        due("COST", x.best(0, 20, 1), 0);
        x = with("45");
        x.set(0, 20);
        x.day();
        x.believe(0, 0);
        // f: LATE (f - 20) / 2 - f: 0 at -20; it is SET, not just FAST
        due("best of one who is WISE", x.best(0, 1, 0), -20);
        due("clock 2", x.best(2, 0, 0), -10001);
        due("clock -1", x.best(-1, 1, 0), -10001);
        due("what 2", x.best(0, 21, 2), -10001);
        due("what -1", x.best(0, 1, -1), -10001);
        due("n 0", x.best(0, 0, 0), -10002);
        due("n 21", x.best(0, 21, 1), -10002);
        due("nothing changed", x.told(10), 20);

        promise = 19;
        x = with("60");
        int[] taken = {9, 1, 4, 0};
        for (int k = 0; k < 4; k++) x.row(0, k, taken[k]);
        // 9 - 10 is 1 EARLY; 1 is 3 LATE at 0, 4 EARLY at 5; 4 - 5 is 1 EARLY
        due("COST", x.rowOf(0, 4, -1), 1 + 3 + 1 + 0);
        int[] row = {10, 0, 5, 0};
        for (int k = 0; k < 4; k++) due("the k-th", x.rowOf(0, 4, k), row[k]);
        due("COST of one", x.rowOf(0, 1, -1), 1);
        due("the first", x.rowOf(0, 1, 0), 10);
        due("there are fewer", x.rowOf(0, 1, 1), -5);
        due("there are fewer", x.rowOf(0, 3, 3), -5);
        due("of several the first", x.rowOf(1, 2, 1), 0);
        x.set(0, 7);
        due("nothing hangs on what it was", x.rowOf(0, 4, -1), 5);
        due("clock 2", x.rowOf(2, 9, 0), -1);
        due("k 4", x.rowOf(0, 9, 4), -1);
        due("k -2", x.rowOf(0, 1, -2), -1);
        due("n 0", x.rowOf(0, 0, -1), -2);
        due("n 5", x.rowOf(0, 5, 3), -2);
        x = with("40");
        x.set(0, 20);
        // SET again to 20: CHANGE 0, LATE -20; else 15, 10, 5, 0: CHANGE f - 20, LATE (f - 20) / 2 - f: -17, -15, -12, -10
        due("SET also if it is so", x.rowOf(0, 1, -1), 10);
        due("SET also if it is so", x.rowOf(0, 1, 0), 0);
        x.set(0, 0);
        x.set(0, 8);
        read(x, "slow 20 s=0&d=0;slow 9 s=1;rush 4 s>1");
        // 20 slow today alone, CHANGE from 8: 16, 14, 11, 8, 6 LATE by 0 .. 20; then from 20 back to 0: 10 EARLY
        due("SETS are 0 on each", x.rowOf(0, 2, -1), 6 * 3 + 10);
        due("SETS are 0 on each", x.rowOf(0, 2, 0), 20);
        due("SETS are 0 on each", x.rowOf(0, 2, 1), 0);

        promise = 20;
        lasts();
        promise = 21;
        mixed();
        promise = 22;
        goBy();
        promise = 23;
        call();
        promise = 24;
        padded();
    }

    private static void lasts() {
        FastClock x = with("15");
        x.set(0, 20);
        // not set: 20, 10, 5, 3, 2, 1, 1; set to 10: 10, 5, 3, 2, 1, 1, 1
        due("lasts(0, 10)", x.lasts(0, 10), 6);
        // set to 20: the same
        due("lasts(0, 20)", x.lasts(0, 20), 1);
        // set to 30: 30
        due("lasts(0, 30)", x.lasts(0, 30), 1);
        due("of the other", x.lasts(1, 5), 1);
        x = with("00");
        x.set(0, 20);
        due("for ever", x.lasts(0, 0), -5);
        read(x, "rush 99 s=5");
        // set now, s is 5 on the sixth day; not set neither, both are on the same day
        due("on the same day", x.lasts(0, 10), -5);
        x.day();
        // not set: 5 on the fifth day (99 + 20 EARLY), set: on the sixth
        due("on the sixth day", x.lasts(0, 10), 6);
        // 120 LATE, 9 on the thirtieth day; set to 51 it stays at 9, to 52 at 8
        x = with("11");
        x.believe(0, 60);
        x.set(0, -60);
        due("thirty days", x.lasts(0, 51), 30);
        due("more", x.lasts(0, 52), -5);
        x = with("00 39");
        // 9 LATE costs 27; at 3: 3 EARLY, 6 LATE: 21; at 60: 60 EARLY, 51 EARLY
        due("better", x.lasts(0, 3), -5);
        due("worse", x.lasts(0, 60), 1);
        due("as good", x.lasts(0, 0), 1);
        due("clock 2", x.lasts(2, 61), -1);
        due("clock -1", x.lasts(-1, 0), -1);
        due("61", x.lasts(0, 61), -2);
        due("-61", x.lasts(1, -61), -2);
        due("-60", x.lasts(1, -60), 1);
        due("nothing changed", x.told(1), 0);
    }

    private static void mixed() {
        FastClock x = with("00 32");
        // at 0: 0 + 6; 1: 1 + 3; 2: 2 + 0; 3: 3 + 1
        due("above", x.mixed(0, 0, 3, 0), 4);
        due("below", x.mixed(0, 0, 3, 1), 1);
        due("above", x.mixed(0, 0, 2, 0), 4);
        due("above", x.mixed(0, 2, 3, 0), 3);
        due("above", x.mixed(0, 1, 3, 0), 10);
        due("below", x.mixed(0, 1, 3, 1), 3);
        // 60 * 61 / 2 * 4 of the one; 62 * 63 / 2 * 3 and 58 * 59 / 2 of the other
        due("above", x.mixed(0, -60, 60, 0), 7320 + 5859 + 1711);
        due("below", x.mixed(0, -60, 60, 1), 121);
        due("one alone", x.mixed(0, 2, 2, 0), 2);
        due("the other", x.mixed(1, -5, 5, 0), 6);
        due("the other", x.mixed(1, -5, 5, 1), 1);
        x = with("40");
        x.set(0, 10);
        // not SET: CHANGE stays 10: 5 less f
        due("CHANGE stays", x.mixed(0, 5, 5, 0), 0);
        due("nothing", x.mixed(0, 5, 5, 1), 1);
        due("CHANGE stays", x.mixed(0, 0, 0, 0), 15);
        due("clock", x.mixed(2, 0, 0, 0), NO);
        due("clock", x.mixed(-1, 0, 0, 0), NO);
        due("a", x.mixed(0, -61, 0, 0), NO);
        due("b", x.mixed(0, 0, 61, 0), NO);
        due("a more than b", x.mixed(0, 1, 0, 0), NO);
        due("part", x.mixed(0, 0, 0, 2), NO);
        due("part", x.mixed(0, 0, 0, -1), NO);
        due("nothing changed", x.told(10), 10);
    }

    private static void goBy() {
        FastClock x = with("00 39 55");
        due("of several the first", x.goBy(0), 0);
        x.set(1, 9);
        due("right is better", x.goBy(0), 0);
        due("9 FAST is better", x.goBy(1), 1);
        // CHANCE: 5 - 4 at 0: 1 LATE, 3; at 1: 8 EARLY
        due("CHANCE", x.goBy(2), 0);
        x.use(1, 1);
        due("by which it goes already", x.goBy(1), 1);
        read(x, "slow 30 c=0");
        due("MARGIN hangs on the CLOCK", x.goBy(0), 1);
        due("nobody", x.goBy(3), -1);
        due("nobody", x.goBy(-1), -1);
        due("CLOCK stays", x.of(0, 2), 0);
    }

    private static void call() {
        FastClock x = with("39 32");
        // by 2: 21; by 9: 7 EARLY
        due("call(1)", x.call(1), 9);
        due("call(20)", x.call(20), 9);
        read(x, "late 1;early 1");
        due("of several the least", x.call(1), 2);
        read(x, "slow 90 p<2");
        due("as far as it goes", x.call(3), 60);
        read(x, "late 0;early 0");
        due("nothing costs", x.call(3), 0);
        x = with("15");
        x.believe(0, 40);
        // 40, 20, 10, 5: the fourth part of the days LATE may cost as much as three EARLY
        due("on four days", x.call(4), 20);
        due("on two days", x.call(2), 40);
        due("n 0", x.call(0), -2);
        due("n 21", x.call(21), -2);
        due("nothing changed", x.of(0, 3), 40);
    }

    private static void padded() {
        FastClock x = with("15 00 39");
        x.believe(0, 40);
        due("today alone", x.padded(0, 0), 40);
        due("the worst of all", x.padded(0, 30), 40);
        x.set(0, 50);
        // BELIEF 40, 45, 47, 48, 49: never LATE
        due("never LATE", x.padded(0, 30), 0);
        due("never LATE", x.padded(1, 3), 0);
        x.set(0, 0);
        due("RASH", x.padded(2, 0), 9);
        read(x, "slow 7 d=3;slow 20 d=4");
        due("today and two", x.padded(1, 2), 0);
        due("today and three", x.padded(1, 3), 7);
        due("today and four", x.padded(1, 4), 20);
        read(x, "slow 99 p<2;slow 1 p=1");
        due("100 LATE", x.padded(1, 0), -5);
        read(x, "slow 99 p=1");
        due("99 LATE", x.padded(1, 0), 99);
        due("nobody", x.padded(3, 31), -1);
        due("nobody", x.padded(-1, 0), -1);
        due("n -1", x.padded(0, -1), -2);
        due("n 31", x.padded(0, 31), -2);
    }

    private static void tellings() {
        promise = 25;
        FastClock x = with("10 10 10");
        due("none is better", x.tellOne(), -5);
        x.set(0, 10);
        x.believe(1, 8);
        x.believe(2, 8);
        // 0 costs 10; told by 1 or by 2 it costs 2
        due("of several the first", x.tellOne(), 10);
        x.believe(2, 10);
        due("the best", x.tellOne(), 20);
        x.use(2, 1);
        due("by the same CLOCK alone", x.tellOne(), 10);
        x.use(1, 1);
        // at 0: 10 EARLY alone; by 1, which is right: 8 LATE and 10 LATE: 54; 1 tells 2: 48
        due("among the others", x.tellOne(), 12);
        x.believe(1, 10);
        due("nobody can", x.tellOne(), -5);
        due("nobody", new FastClock().tellOne(), -5);
        due("one alone", with("10").tellOne(), -5);
        x = with("00 00");
        x.believe(0, 5);
        due("who takes nothing off", x.tellOne(), -5);

        promise = 26;
        x = with("00 00 00 00 00 00");
        due("all have it", x.known(3), 0);
        x.believe(2, 5);
        // 2 tells 3, then 2 and 3 both tell 4, then 5, 0, 1
        due("one after another", x.known(2), 5);
        // 3 tells 2 too: on the first day 5, 0 and 1 as well
        due("the next one, round", x.known(0), 1);
        x.believe(5, 5);
        // 2 tells 3, 5 tells 0; 2 and 3 tell 4, 5 and 0 tell 1
        due("from two sides", x.known(5), 2);
        x.use(3, 1);
        x.use(4, 1);
        // 2 and 5 tell 0, then 1
        due("by the same CLOCK alone", x.known(2), 2);
        due("by the other", x.known(4), 0);
        x.believe(4, 1);
        due("by the other", x.known(4), 1);
        due("nobody", x.known(6), -1);
        due("nobody", x.known(-1), -1);
        x = with("19 19");
        x.set(0, 50);
        x.believe(1, 45);
        due("nobody learning", x.known(0), 1);
    }

    private static void seenOddsRulesBooks() {
        promise = 27;
        FastClock x = with("00 11");
        due("nobody", x.see(2, 201), -1);
        due("nobody", x.see(-2, 0), -1);
        due("201", x.see(0, 201), -2);
        due("-201", x.see(1, -201), -2);
        for (int i = 1; i <= 6; i++) due("see", x.see(i % 2, i % 2 == 0 ? 200 : -200), i);
        due("FULL", x.see(0, 0), -4);
        due("BAD ahead of FULL", x.see(0, 201), -2);
        due("NONE ahead of FULL", x.see(2, 0), -1);
        due("count(2)", x.count(2), 6);
        due("none then", x.see(-1, 9999), 0);
        due("count(2)", x.count(2), 0);
        due("see", x.see(0, 0), 1);

        promise = 28;
        x = with("00 54 00");
        due("nothing is SEEN", x.fast(0, 0), 121);
        due("the least", x.fast(0, 1), -60);
        x.see(0, 10);
        due("one number", x.fast(0, 0), 1);
        due("the least", x.fast(0, 1), -10);
        due("the other", x.fast(1, 0), 0);
        due("the other", x.fast(1, 1), -99);
        x.see(2, 11);
        due("not both", x.fast(0, 0), 0);
        due("not both", x.fast(0, 1), -99);
        x.see(-1, 0);
        x.see(1, 3);
        // 4 less the half of how far they are apart: 2 or 3, by clock 1 FAST or slow
        due("CHANCE sees the other", x.fast(1, 0), 4);
        due("CHANCE sees the other", x.fast(1, 1), -3);
        x = with("40");
        x.set(0, 10);
        x.see(0, 5);
        due("not SET: CHANGE stays", x.fast(0, 1), 0);
        due("clock 2", x.fast(2, 0), -1);
        due("clock -1", x.fast(-1, 0), -1);
        due("what 2", x.fast(0, 2), -1);
        due("what -1", x.fast(0, -1), -1);

        promise = 29;
        x = with("00 33 03 33");
        due("who(0)", x.who(0), 5);
        due("who(3)", x.who(3), 10);
        due("who(2)", x.who(2), 0);
        x.set(0, 60);
        due("who(-60)", x.who(-60), 5);
        due("who(200)", x.who(200), 0);
        due("who(-200)", x.who(-200), 0);
        due("201", x.who(201), -2);
        due("-201", x.who(-201), -2);

        promise = 30;
        x = with("10 10 10 10");
        x.believe(0, 5);
        due("0 must hear", x.odds(0, 0), 1);
        due("of four", x.odds(0, 1), 4);
        due("any", x.odds(5, 0), 1);
        due("any", x.odds(5, 1), 1);
        due("none", x.odds(-1, 0), 0);
        due("none", x.odds(-1, 1), 1);
        x.believe(1, 1);
        due("two are LATE", x.odds(0, 0), 0);
        due("within 1", x.odds(1, 0), 1);
        due("within 1", x.odds(1, 1), 4);
        x.use(0, 1);
        x.set(1, 3);
        // who hears becomes right: 0 is 2 LATE, 1 is 1 LATE
        due("1 of 4", x.odds(1, 0), 1);
        due("all", x.odds(2, 1), 1);
        x.believe(0, -3);
        due("1 or nobody", x.odds(0, 1), 4);
        x = with("10 10 00 00");
        x.set(0, -2);
        x.believe(0, -2);
        x.believe(1, -2);
        // 2 and 3 are 2 LATE whoever hears
        due("2 LATE", x.odds(1, 0), 0);
        due("2 LATE", x.odds(2, 0), 1);
        x = with("10 30 10 10");
        x.believe(0, 4);
        x.set(0, 4);
        x.believe(2, 5);
        due("in lowest terms", x.odds(0, 1), 4);
        due("n 61", x.odds(61, 0), NO);
        due("n -61", x.odds(-61, 0), NO);
        due("part 2", x.odds(0, 2), NO);
        due("part -1", x.odds(0, -1), NO);
        due("BELIEF stays", x.of(2, 3), 5);
        due("nobody", new FastClock().odds(0, 0), NO);
        x = with("10 10 30 30");
        x.set(0, 6);
        x.set(0, 5);
        due("hearing makes two of four LATE by more", x.odds(-1, 0), 1);
        due("hearing makes two of four LATE by more", x.odds(-1, 1), 2);

        promise = 31;
        x = with("00 31 33 32");
        due("above", x.mean(0), 3);
        due("below", x.mean(1), 2);
        x.set(0, 2);
        due("below 0", x.mean(0), -1);
        due("below 0", x.mean(1), 2);
        x = with("00 00");
        due("nothing", x.mean(0), 0);
        due("nothing", x.mean(1), 1);
        due("part 2", x.mean(2), NO);
        due("part -1", x.mean(-1), NO);
        due("nobody", new FastClock().mean(1), NO);

        promise = 32;
        x = new FastClock();
        due("clock 2", x.rule(2, 61, 0), -1);
        due("clock -1", x.rule(-1, 0, 1), -1);
        due("f", x.rule(0, 61, 1), -2);
        due("f", x.rule(0, -61, 1), -2);
        due("n 0", x.rule(0, 0, 0), -2);
        due("n 10", x.rule(0, 0, 10), -2);
        due("n -2", x.rule(0, 0, -2), -2);
        for (int i = 1; i <= 4; i++) due("rule", x.rule(i % 2, i % 2 == 0 ? 60 : -60, i % 2 == 0 ? 9 : 1), i);
        due("FULL", x.rule(0, 0, 1), -4);
        due("BAD ahead of FULL", x.rule(0, 0, 10), -2);
        due("NONE ahead of FULL", x.rule(2, 0, 1), -1);
        due("count(3)", x.count(3), 4);
        due("none then", x.rule(9, 99, -1), 0);
        due("count(3)", x.count(3), 0);

        promise = 33;
        x = with("15");
        due("no rows", x.ruled(), 0);
        x.rule(0, 20, 2);
        // 20, 10
        due("one row", x.ruled(), 30);
        x.rule(1, 60, 1);
        // 5 more, the clock stands
        due("two rows", x.ruled(), 35);
        x.rule(0, 10, 2);
        // BELIEF 17 at 10: 7 LATE; then 17 - 3: 4 LATE
        due("three rows", x.ruled(), 35 + 33);
        due("nothing changed", x.told(10), 0);
        due("nothing changed", x.told(0), 0);
        read(x, "slow 9 s=0;late 1");
        // SETS are 0 on the first, third and fourth: 11, 10, 4 LATE, 16 LATE, 4 LATE
        due("SET ahead of each row", x.ruled(), 11 + 10 + 4 + 16 + 4);

        promise = 34;
        x = with("00");
        due("nobody", x.book(1, 201), -1);
        due("nobody", x.book(-2, 0), -1);
        due("201", x.book(0, 201), -2);
        due("-201", x.book(0, -201), -2);
        for (int i = 1; i <= 8; i++) due("book", x.book(0, i % 2 == 0 ? 200 : -200), i);
        due("FULL", x.book(0, 0), -4);
        due("BAD ahead of FULL", x.book(0, 201), -2);
        due("NONE ahead of FULL", x.book(1, 0), -1);
        due("count(4)", x.count(4), 8);
        due("none then", x.book(-1, 777), 0);
        due("count(4)", x.count(4), 0);

        promise = 35;
        x = with("15 00");
        x.set(0, 20);
        due("no rows", x.looked(), -5);
        x.book(0, -20);
        due("so", x.looked(), -5);
        x.book(1, -20);
        x.book(0, -5);
        due("all so", x.looked(), -5);
        x.book(0, -5);
        due("the fourth is not", x.looked(), 3);
        x.book(1, 0);
        due("the first of two", x.looked(), 3);
        x.day();
        due("from now", x.looked(), 0);
    }

    private static void actsAndImage() {
        promise = 36;
        FastClock x = with("04 14 24 34 44 54");
        x.image();
        int[][] answers = {
            // looks: x + i; x * 3 + i; x + i; x + i; x * 3 + i; x + i ^ i
            {10, 31, 12, 13, 34, 15 ^ 5},
            // goes: less 4; OFF and CHANCE turned
            {6, 27, -8, 9, 30, -((15 ^ 5) - 4)},
            // tells: doubled; RASH ^ 7; WISE of 9: (27 + 4 - 4) * 2 + 10
            {12, 54, -16, 18 ^ 7, 54 + 10, -2 * ((15 ^ 5) - 4)}};
        int[][][] traces = {
            {{1}, {11, 1}, {1}, {1}, {11, 1}, {51, 1}},
            {{2, 1}, {2, 11, 1}, {21, 2, 1}, {2, 1}, {2, 11, 1}, {21, 2, 51, 1}},
            {{3, 2, 1}, {3, 2, 11, 1}, {3, 21, 2, 1}, {31, 3, 2, 1}, {41, 3, 2, 11, 1, 11, 1}, {3, 21, 2, 51, 1}}};
        for (int act = 0; act < 3; act++) {
            for (int p = 0; p < 6; p++) {
                promise = 36;
                due("act(" + p + ", " + act + ", 10)", x.act(p, act, 10), answers[act][p]);
                promise = 37;
                int[] trace = traces[act][p];
                for (int i = 0; i < trace.length; i++) due("trace(" + i + ") of " + p + ", " + act, x.trace(i), trace[i]);
                due("trace behind all", x.trace(trace.length), -1);
                due("trace(-1)", x.trace(-1), -1);
                due("bodies", x.count(6), trace.length);
            }
        }
        due("undo()", x.undo(), 6);
        due("THE TRACE stays", x.trace(1), 21);
        due("THE TRACE stays", x.count(6), 5);
        promise = 36;
        due("nobody", x.act(6, 0, 5), 0);
        due("no TRACE then", x.count(6), 0);
        due("no TRACE then", x.trace(0), -1);
        x.act(0, 2, 1);
        due("act 3", x.act(0, 3, 5), 0);
        due("no TRACE then", x.count(6), 0);
        x.act(0, 2, 1);
        due("act -1", x.act(0, -1, 5), 0);
        due("nobody", x.act(-1, 0, 5), 0);
        due("wrapping", x.act(1, 0, Integer.MAX_VALUE), Integer.MAX_VALUE * 3 + 1);
        due("wrapping", x.act(4, 2, Integer.MIN_VALUE), (Integer.MAX_VALUE * 3 + 4 - 4) * 2 + 10);
        x = with("60 65");
        due("TOLD goes", x.act(1, 1, 7), 8);
        due("TRACE", x.trace(0), 61);
        due("TRACE", x.trace(1), 2);
        due("TRACE", x.trace(2), 1);
        due("TOLD tells", x.act(1, 2, 7), 16 ^ 7);
        due("TRACE", x.trace(0) * 1000 + x.trace(1) * 100 + x.trace(2), 31000 + 300 + 61);
        due("TOLD looks", x.act(1, 0, -9), -8);

        promise = 38;
        x = with("01 12 23 34 45 56 67");
        String[] under = {"0", "01", "02", "03", "014", "025"};
        for (int p = 0; p < 6; p++) {
            for (int k = 0; k < 7; k++) due("as(" + p + ", " + k + ")", x.as(p, k), under[p].indexOf('0' + k) >= 0 ? p + 1 : -6);
        }
        x = with("67");
        for (int k = 0; k < 7; k++) due("TOLD as " + k, x.as(0, k), k == 0 || k == 3 || k == 6 ? 7 : -6);
        due("nobody", x.as(1, 0), -1);
        due("nobody", x.as(-1, 0), -1);
        due("k 7", x.as(0, 7), -1);
        due("k -1", x.as(0, -1), -1);

        promise = 39;
        due("nobody", new FastClock().image(), 0);
        x = with("67 13");
        due("image()", x.image(), 2);
        promise = 40;
        undo();
        undoOfNotes();
        promise = 41;
        x = with("00 00 00");
        read(x, "late 1");
        x.feed('l');
        x.see(0, 0);
        x.see(0, 0);
        for (int i = 0; i < 4; i++) x.rule(0, 0, 1);
        for (int i = 0; i < 5; i++) x.book(0, 0);
        x.act(0, 1, 0);
        int[] counts = {3, 1, 2, 4, 5, 1, 2};
        for (int i = 0; i < 7; i++) due("count(" + i + ")", x.count(i), counts[i]);
        due("count(7)", x.count(7), -1);
        due("count(-1)", x.count(-1), -1);
    }

    /** All that is told by hand comes back, whatever took its place. */
    private static void undoOfNotes() {
        FastClock x = with("35 00");
        x.set(0, 5);
        x.see(0, 0);
        x.see(1, -5);
        x.rule(0, 10, 2);
        x.rule(1, 3, 1);
        x.book(1, -5);
        x.book(0, 0);
        for (char sign : "late 9".toCharArray()) x.feed(sign);
        due("fast(0, 1)", x.fast(0, 1), 5);
        due("ruled()", x.ruled(), 15 * 3);
        due("looked()", x.looked(), -5);
        x.image();
        x.feed('z');
        x.house();
        for (char sign : "early 77".toCharArray()) x.feed(sign);
        x.see(-1, 0);
        x.see(1, 3);
        x.see(0, 3);
        x.rule(0, 0, -1);
        x.rule(1, 1, 9);
        x.rule(0, -60, 9);
        x.book(-1, 0);
        x.book(0, 100);
        x.book(1, 100);
        x.undo();
        due("fast(0, 0)", x.fast(0, 0), 1);
        due("fast(0, 1)", x.fast(0, 1), 5);
        due("ruled()", x.ruled(), 15 * 3);
        due("looked()", x.looked(), -5);
        due("house()", x.house(), 0);
        due("told(3)", x.told(3), 9);
    }

    private static void undo() {
        FastClock x = with("67 13");
        due("there is none", x.undo(), -3);
        read(x, "late 5;rush 3 p=0");
        x.row(0, 1, 8);
        x.believe(1, 9);
        x.use(1, 1);
        x.set(1, 10);
        x.day();
        x.see(0, 4);
        x.rule(1, 2, 3);
        x.book(1, 5);
        x.feed('l');
        x.feed('a');
        due("image()", x.image(), 2);
        for (int i = 0; i < 2; i++) {
            x.person(0, 0);
            read(x, "te 1");
            read(x, "late 9");
            x.row(0, 1, 2);
            x.believe(1, 30);
            x.use(1, 0);
            x.set(0, -5);
            x.set(1, 5);
            x.day();
            x.see(1, 1);
            x.rule(0, 0, -1);
            x.book(-1, 0);
            x.book(0, 1);
            x.book(0, 2);
            x.book(0, 3);
            due("undo()", x.undo(), 2);
            int[] counts = {2, 1, 1, 1, 1, 2};
            for (int k = 0; k < 6; k++) due("count(" + k + ")", x.count(k), counts[k]);
            int[] told = {1, 1, 10, 5, 1};
            for (int k = 0; k < 5; k++) due("told(" + k + ")", x.told(k), told[k]);
            due("FAST", x.told(10), 0);
            due("FAST", x.told(11), 10);
            due("BELIEF", x.of(1, 3), 9);
            due("CLOCK", x.of(1, 2), 1);
            due("TAKEN by ROW", x.of(0, 5), 8);
            due("MARGIN by HOUSE", x.of(0, 4), 3 - 7);
            due("looked()", x.looked(), 0);
            due("fast by SEEN", x.fast(0, 1), 8);
            // LATE 12, 4, 4 of TOLD (ROW 8, 0, 0) and 7, 5, 3 (BELIEF 9, 7, 5) of LEARNING at 2
            due("ruled()", x.ruled(), 5 * (12 + 4 + 4 + 7 + 5 + 4));
        }
        read(x, "te 4");
        due("THE TAPE was so", x.told(3), 4);
        x.image();
        x.person(0, 0);
        due("of the newer IMAGE", x.undo(), 2);
        due("its HOUSE", x.told(3), 4);
        due("count(1)", x.count(1), 2);
    }
}

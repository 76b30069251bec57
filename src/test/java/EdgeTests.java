import java.lang.reflect.Method;
import java.util.ArrayList;
import java.util.HashMap;
import java.util.List;
import java.util.Map;
import java.util.regex.Matcher;
import java.util.regex.Pattern;

/**
 * Every sentence of the document that names an edge, with a run of its own: the last that is allowed and the first that
 * is not, nothing there and all places taken, refusals and which of several is told.
 *
 * A run is a row of steps on a new object. name(1,2)=3: the call answers 3 (no =: whatever it answers). house'text'=0: the
 * text is fed sign by sign, then read; feed'text': it is fed alone. 5*step: five times. ?step: the call changes nothing:
 * two objects that had the same steps, one with this call and one without, are looked at all over. new: another new
 * object. From // on: why the answer is due.
 */
public final class EdgeTests {
    private static final Pattern STEP = Pattern.compile("(\\?)?(?:(\\d+)\\*)?(\\w+)(?:\\(([^)]*)\\)|'([^']*)')(?:=(-?\\w+))?");
    private static final Map<String, Method> METHODS = new HashMap<>();
    private static int sentences = 0;
    private static int asked = 0;
    private static int wrong = 0;

    private record Step(String text, boolean changesNothing, int times, String name, int[] numbers, String fed, Long due) {}

    public static void main(String[] args) throws Exception {
        for (Method method : FastClock.class.getDeclaredMethods()) METHODS.put(method.getName(), method);
        clocksAndPeople();
        tapeAndHouses();
        tests();
        marginAndTaken();
        aDayGoes();
        daysToCome();
        settings();
        tellings();
        seenOddsRulesBooks();
        actsAndImage();
        refusalsOfHousesPeopleClocks();
        refusalsOfQuestions();
        refusalsWhereAllPlacesAreTaken();
        questionsChangeNothing();
        System.out.println(wrong == 0 ? sentences + " sentences hold in " + asked + " answers" : wrong + " answers are not as due");
        if (wrong != 0) System.exit(1);
    }

    // ---- how runs are read and done

    private static long number(String word) {
        switch (word) {
            case "NONE": return -1;
            case "BAD": return -2;
            case "STATE": return -3;
            case "FULL": return -4;
            case "NO": return Long.MIN_VALUE;
            case "MAX": return Integer.MAX_VALUE;
            case "MIN": return Integer.MIN_VALUE;
            default: return Long.parseLong(word);
        }
    }

    private static List<List<Step>> runsOf(String script) {
        List<List<Step>> runs = new ArrayList<>();
        runs.add(new ArrayList<>());
        String text = script.replaceAll("//[^\n]*", "");
        Matcher matcher = STEP.matcher(text);
        int at = 0;
        while (at < text.length()) {
            if (Character.isWhitespace(text.charAt(at))) {
                at++;
            } else if (text.startsWith("new", at)) {
                runs.add(new ArrayList<>());
                at += 3;
            } else if (matcher.region(at, text.length()).lookingAt()) {
                runs.get(runs.size() - 1).add(stepOf(matcher));
                at = matcher.end();
            } else {
                throw new IllegalStateException("no step: " + text.substring(at));
            }
        }
        return runs;
    }

    private static Step stepOf(Matcher matcher) {
        String[] words = matcher.group(4) == null || matcher.group(4).isEmpty() ? new String[0] : matcher.group(4).split(",");
        int[] numbers = new int[words.length];
        for (int i = 0; i < words.length; i++) numbers[i] = (int) number(words[i].trim());
        int times = matcher.group(2) == null ? 1 : Integer.parseInt(matcher.group(2));
        Long due = matcher.group(6) == null ? null : number(matcher.group(6));
        return new Step(matcher.group(), matcher.group(1) != null, times, matcher.group(3), numbers, matcher.group(5), due);
    }

    private static long answer(FastClock x, Step step) throws Exception {
        if (step.fed != null) {
            for (int i = 0; i < step.fed.length(); i++) x.feed(step.fed.charAt(i));
            return step.name.equals("house") ? x.house() : x.count(5);
        }
        Object[] given = new Object[step.numbers.length];
        for (int i = 0; i < given.length; i++) given[i] = step.numbers[i];
        return ((Number) METHODS.get(step.name).invoke(x, given)).longValue();
    }

    private static void sentence(String said, String script) throws Exception {
        sentences++;
        for (List<Step> run : runsOf(script)) {
            FastClock x = new FastClock();
            for (int i = 0; i < run.size(); i++) {
                Step step = run.get(i);
                for (int time = 0; time < step.times; time++) {
                    long got = answer(x, step);
                    if (step.due == null) continue;
                    asked++;
                    if (got != step.due) say(said, step.text + " answered " + got);
                }
                if (step.changesNothing) seeThatNothingChanged(said, run, i);
            }
        }
    }

    private static void say(String said, String what) {
        wrong++;
        System.out.println("\"" + said + "\": " + what);
    }

    private static void seeThatNothingChanged(String said, List<Step> run, int at) throws Exception {
        asked++;
        String with = lookOf(run, at + 1);
        String without = lookOf(run, at);
        if (!with.equals(without)) say(said, run.get(at).text + " changed something:\n  " + without + "\n  " + with);
    }

    private static String lookOf(List<Step> run, int steps) throws Exception {
        FastClock x = new FastClock();
        for (int i = 0; i < steps; i++) {
            for (int time = 0; time < run.get(i).times; time++) answer(x, run.get(i));
        }
        StringBuilder look = new StringBuilder();
        lookAtAll(x, look);
        look.append(" house ").append(x.house());
        lookAtHouse(x, look);
        look.append(" undo ").append(x.undo());
        lookAtAll(x, look);
        look.append(" house ").append(x.house());
        lookAtHouse(x, look);
        return look.toString();
    }

    private static void lookAtAll(FastClock x, StringBuilder look) {
        look.append(" told");
        for (int what : new int[] {0, 1, 2, 10, 11}) look.append(' ').append(x.told(what));
        look.append(" count");
        for (int what = 0; what < 7; what++) look.append(' ').append(x.count(what));
        look.append(" trace");
        for (int i = 0; i < 8; i++) look.append(' ').append(x.trace(i));
        for (int p = 0; p < x.count(0); p++) {
            look.append(" of ").append(p);
            for (int what = 0; what < 4; what++) look.append(' ').append(x.of(p, what));
            // ROW of four days, and BELIEF by how LATE one is
            for (int n = 0; n < 4; n++) look.append(' ').append(x.on(n, 10 + p));
        }
        lookAtHouse(x, look);
        look.append(" seen");
        for (int i = 0; i < 4; i++) look.append(' ').append(x.fast(i / 2, i % 2));
        look.append(" ruled ").append(x.ruled()).append(" looked ").append(x.looked());
    }

    private static void lookAtHouse(FastClock x, StringBuilder look) {
        look.append(" costs ").append(x.told(3)).append(' ').append(x.told(4)).append(" margins");
        for (int p = 0; p < x.count(0); p++) look.append(' ').append(x.of(p, 4));
    }

    // ---- Terms, part 1

    private static void clocksAndPeople() throws Exception {
        sentence("Two CLOCKS that are right, nobody, no HOUSE", """
            told(10)=0 told(11)=0 count(0)=0 ?of(0,0)=-10001 count(1)=0 told(3)=3 told(4)=1
            6*count(2)=0 count(3)=0 count(4)=0 count(5)=0 count(6)=0 ?trace(0)=NONE ?undo()=STATE
            """);
        sentence("CLOCKS 0, 1", """
            ?told(9)=-10001 told(10)=0 told(11)=0 ?told(12)=-10001
            ?set(-1,0)=-10001 ?set(2,0)=-10001 set(0,1)=1 set(1,2)=2 told(10)=1 told(11)=2
            person(0,0) ?use(0,-1)=NONE ?use(0,2)=NONE use(0,1)=0 use(0,0)=1
            """);
        sentence("each FAST by minutes (-60 .. 60; 0 at first; below 0: slow)", """
            told(10)=0 told(11)=0 person(0,0)
            set(0,60)=60 ?set(0,61)=-10002 told(10)=60 of(0,6)=-60
            set(0,-60)=-120 ?set(0,-61)=-10002 told(10)=-60 of(0,6)=60
            set(1,-60)=-60 ?set(1,-61)=-10002 set(1,60)=120 ?set(1,61)=-10002 told(11)=60
            ?set(0,MAX)=-10002 ?set(0,MIN)=-10002
            """);
        sentence("PEOPLE are numbered from 0 on, 6 at most", """
            count(0)=0 ?of(0,1)=-10001
            person(0,4)=0 person(0,5)=1 ?of(2,1)=-10001 person(0,6)=2 person(0,7)=3 person(0,8)=4 person(0,9)=5
            ?person(0,0)=FULL count(0)=6 of(0,1)=4 of(5,1)=9 ?of(6,1)=-10001 ?of(-1,1)=-10001
            """);
        sentence("each of a KIND: 0 PERSON; 1 LEARNING, 2 OFF, 3 RASH; 4 WISE; 5 CHANCE; 6 TOLD", """
            ?person(-1,0)=NONE ?person(7,0)=NONE ?person(MIN,0)=NONE ?person(MAX,0)=NONE
            person(0,0)=0 person(6,0)=1 person(1,0) person(5,0) person(2,0) person(4,0)
            of(0,0)=0 of(1,0)=6 of(2,0)=1 of(3,0)=5 of(4,0)=2 of(5,0)=4
            new person(3,0)=0 of(0,0)=3
            """);
        sentence("LEARNING, OFF, RASH under PERSON; WISE under LEARNING; CHANCE under OFF; TOLD under RASH", """
            person(0,1) person(1,2) person(2,3) person(3,4) person(4,5) person(5,6)
            as(0,0)=1 as(0,1)=-6 as(0,2)=-6 as(0,3)=-6 as(0,4)=-6 as(0,5)=-6 as(0,6)=-6
            as(1,0)=2 as(1,1)=2 as(1,2)=-6 as(1,3)=-6 as(1,4)=-6 as(2,0)=3 as(2,2)=3 as(2,1)=-6 as(2,5)=-6
            as(3,0)=4 as(3,3)=4 as(3,6)=-6 as(4,0)=5 as(4,1)=5 as(4,4)=5 as(4,2)=-6 as(4,3)=-6 as(4,5)=-6
            as(5,0)=6 as(5,2)=6 as(5,5)=6 as(5,1)=-6 as(5,3)=-6 as(5,6)=-6
            new person(6,7) as(0,0)=7 as(0,3)=7 as(0,6)=7 as(0,1)=-6 as(0,2)=-6 as(0,4)=-6 as(0,5)=-6
            """);
        sentence("a number v (0 .. 9)", """
            ?person(0,-1)=BAD person(0,0)=0 person(0,9)=1 ?person(0,10)=BAD of(0,1)=0 of(1,1)=9
            ?person(6,MAX)=BAD ?person(6,MIN)=BAD
            """);
        sentence("a CLOCK that it goes by (0 at first)", "set(1,9) 2*person(1,0) of(0,2)=0 use(0,1)=0 of(0,2)=1 of(1,2)=0");
        sentence("a BELIEF (-60 .. 60; 0 at first)", """
            set(0,7) person(1,3) of(0,3)=0 believe(0,60)=0 ?believe(0,61)=-10002 of(0,3)=60
            believe(0,-60)=60 ?believe(0,-61)=-10002 of(0,3)=-60 ?believe(0,MAX)=-10002 ?believe(0,MIN)=-10002
            """);
        sentence("TOLD ones a ROW of four numbers (0 .. 9; 0 at first)", """
            person(6,0) on(0,10)=0 on(1,10)=0 on(2,10)=0 on(3,10)=0
            row(0,0,9)=0 row(0,3,9)=0 ?row(0,3,10)=BAD ?row(0,0,-1)=BAD row(0,3,0)=9 row(0,0,1)=9
            ?row(0,4,1)=NONE ?row(0,-1,1)=NONE on(0,10)=1 on(3,10)=0
            """);
        sentence("each TOLD one has a ROW of its own", """
            6*person(6,0) row(0,0,1)=0 row(0,3,2)=0 row(1,0,3)=0 row(4,1,4)=0 row(5,0,5)=0 row(5,3,6)=0
            of(0,5)=1 of(1,5)=3 of(2,5)=0 of(3,5)=0 of(4,5)=0 of(5,5)=5 on(1,10)=0 on(1,11)=0 on(1,14)=4 on(1,15)=0
            on(3,10)=2 on(3,11)=0 on(3,14)=0 on(3,15)=6 row(5,3,0)=6 row(0,3,0)=2 row(1,3,0)=0 row(4,1,0)=4
            """);
        sentence("who comes behind an undo has all at first again", """
            person(6,9) image() person(6,2) believe(1,9) use(1,1) row(1,2,5) undo()=1
            person(6,3)=1 of(1,1)=3 of(1,2)=0 of(1,3)=0 row(1,2,0)=0
            """);
        sentence("DAY, SETS: 0 at first; SETS 9 at most", """
            told(0)=0 told(1)=0 8*day() told(1)=8 day() told(0)=9 told(1)=9 day() told(0)=10 told(1)=9
            set(0,0) told(1)=0 told(0)=10 day() told(1)=1
            """);
        sentence("CHANGE: by how much the latest setting made a CLOCK more FAST (0 at first)", """
            told(2)=0 set(0,60)=60 set(0,-60)=-120 told(2)=-120 set(0,-60)=0 told(2)=0
            set(1,-5)=-5 told(2)=-5 day() told(2)=-5
            """);
        sentence("at most 512 calls: the last of them is answered too", "510*day() day()=0 told(0)=511");
    }

    private static void tapeAndHouses() throws Exception {
        sentence("A sign (0 .. 127)", """
            ?feed(-1)=BAD ?feed(128)=BAD count(5)=0 feed(0)=1 feed(127)=2 ?feed(128)=BAD ?feed(MAX)=BAD ?feed(MIN)=BAD count(5)=2
            """);
        sentence("THE TAPE (bytes, 100 at most)", """
            count(5)=0 98*feed(97) feed(97)=99 feed(97)=100 ?feed(97)=FULL count(5)=100
            new feed'slow 11 p=11' 22*feed'|p=1' count(5)=100 ?feed(59)=FULL person(0,0) house()=0
            """);
        sentence("CLAUSES, 10 at most", """
            feed'late 1' 8*feed';late 2' feed';late 3' count(5)=69 house()=0 told(3)=3
            new feed'late 1' 10*feed';late 2' house()=-79
            new feed'late 1' 9*feed';late 2' feed';' house()=-79
            new feed'late 1' 9*feed';late 2' feed'x' house()=-79
            new person(0,0) feed'rush 1 p<9' 6*feed';rush 1 p<9' 3*feed';late 5' house()=0 of(0,4)=7 told(3)=5
            new person(0,0) feed'slow 9 p<9' 8*feed';slow 9 p<9' house()=0 of(0,4)=-81
            """);
        sentence("CLAUSES with ; between", """
            house';late 1'=-10 house'late 1;'=-17 house'late 1;;late 2'=-17 house'late 1 ;late 2'=-16 house'late 1,late 2'=-16
            house'late 1late 2'=-16 house'late 1;late 2'=0 told(3)=2
            """);
        sentence("late n; early n; slow n E; rush n E", """
            house'Late 1'=-10 house'l'=-11 house'lat'=-13 house'latf 1'=-13 house'later 1'=-14 house'lush 1 p=1'=-11
            house'early1'=-15 house'earl'=-14 house'slo'=-13 house'sloww'=-14 house'rus'=-13 house'rushh'=-14 house'm'=-10 house'k'=-10
            house'late 1 p=1'=-16 house'early 1 p=1'=-17 house'slow 1'=-16 house'rush 1;late 1'=-16 house'slow p=1'=-15
            """);
        sentence("one blank ahead of each part behind the word", """
            house'late1'=-14 house'late  1'=-15 house'late 1 '=-16 house' late 1'=-10 house'early  1'=-16
            house'slow1 p=1'=-14 house'slow  1 p=1'=-15 house'slow 1p=1'=-16 house'slow 1  p=1'=-17 house'slow 11p=1'=-17
            house'rush 1 p =1'=-18 house'rush 1 p= 1'=-19 house'rush 1 p=1 '=-20 house'rush 1 p=1 |p=2'=-20
            house'rush 1 p=1| p=2'=-21 house'rush 1 ! p=1'=-18 house'rush 1 ( p=1)'=-18 house'rush 1 p=1; late 1'=-21
            """);
        sentence("n 1 or 2 digits", """
            house'late '=-15 house'late x'=-15 house'late /'=-15 house'late :'=-15 house'late -1'=-15 house'late 1/'=-16 house'late 1:'=-16
            house'late 100'=-17 house'early 100'=-18 house'slow 100 p=1'=-17 house'rush 999 p=1'=-17
            house'late 9'=0 told(3)=9 house'late 10;early 99'=1 told(3)=10 told(4)=99
            new person(0,0) house'slow 99 p=0'=0 of(0,4)=-99 house'rush 99 p=0'=1 of(0,4)=99 house'rush 9 p=0'=2 of(0,4)=9
            house'rush 10 p=0'=3 of(0,4)=10
            """);
        sentence("n: no 0 ahead of another", """
            house'late 00'=-16 house'late 05'=-16 house'early 01'=-17 house'slow 00 p=1'=-16 house'rush 09 p=1'=-16 house'rush 1 p=00'=-20
            house'rush 1 p<07'=-20 house'late 0;early 0'=0 told(3)=0 told(4)=0
            new person(0,0) house'rush 0 p=0'=0 of(0,4)=0 house'rush 5 p=0;slow 0 p=0'=1 of(0,4)=5
            """);
        sentence("FAULT: the place of the first byte with which no HOUSE can go on", """
            house'x'=-10 house'late 1x;y'=-16 feed(0) house()=-10 feed'late 1' feed(0) house()=-16 feed'late 1' feed(127) house()=-16
            feed'slow 1 p=1' 22*feed'|p=1' feed'|x' house()=-109
            """);
        sentence("FAULT: the size, if it ends too early", """
            house()=-10 house'l'=-11 house'late'=-14 house'late '=-15 house'slow 1 '=-17 house'slow 1 p'=-18 house'slow 1 p<'=-19
            house'late 1;'=-17 house'late 1;e'=-18 house'rush 5 p=1&'=-21
            feed'slow 1 p=1' 22*feed'|p=1' feed'|p' count(5)=100 house()=-110
            feed'slow 1 p=1' 22*feed'|p=1' feed'|' count(5)=99 house()=-109
            """);
        sentence("THE TAPE is empty then (by a FAULT, too)", """
            house'late 7'=0 count(5)=0 house()=-10 house'late 8x'=-16 count(5)=0 feed(108)=1 count(5)=1 house'ate 9'=1 told(3)=9
            """);
        sentence("by a FAULT the one that held holds", """
            person(0,0) house'late 99 '=-17 told(3)=3 house'late 7;early 5;rush 4 p=0'=0 house'late 8;early 6;rush 9 p=0;'=-36
            told(3)=7 told(4)=5 of(0,4)=4 count(1)=1 house()=-10 told(3)=7 of(0,4)=4 count(1)=1
            """);
        sentence("HOUSES are numbered from 0 on, 5 at most", """
            count(1)=0 house'late 1'=0 house'late'=-14 house'late 2'=1 house'late 3'=2 house'late 4'=3 count(1)=4 house'late 5'=4
            count(1)=5 told(3)=5 feed'late 6' ?house()=FULL count(1)=5 told(3)=5
            """);
        sentence("house: FULL (ahead of all; THE TAPE stays)", """
            image() 5*house'late 1' ?house()=FULL feed'x' ?house()=FULL count(5)=1 feed(120)=2 ?house()=FULL count(5)=2
            undo() house'late 4'=0 told(3)=4
            new 5*house'late 1' image() feed'early 9' house()=FULL undo() count(5)=0
            """);
        sentence("the newest HOUSE holds", """
            person(0,0) house'late 8;early 9;rush 7 p=0'=0 of(0,4)=7 house'slow 2 p=0'=1 of(0,4)=-2 told(3)=3 told(4)=1
            house'late 0'=2 of(0,4)=0 told(3)=0
            """);
        sentence("without one there are no CLAUSES", "person(0,9) person(1,9) of(0,4)=0 of(1,4)=0 told(3)=3 told(4)=1");
        sentence("What a minute LATE costs (3 without), one EARLY (1 without): the last n", """
            house'early 4'=0 told(3)=3 told(4)=4 house'late 4'=1 told(3)=4 told(4)=1
            house'late 9;early 8;late 2;early 0;late 5;rush 1 p=0'=2 told(3)=5 told(4)=0
            """);
    }

    private static void tests() throws Exception {
        sentence("E: T, or T|E", """
            house'slow 1 |p=1'=-17 house'slow 1 p=1|'=-21 house'slow 1 p=1||p=1'=-21 house'slow 1 p=1p=1'=-20
            4*person(0,0) house'rush 1 p=0|p=1|p=2'=0 of(0,4)=1 of(1,4)=1 of(2,4)=1 of(3,4)=0
            """);
        sentence("T: F, or F&T", """
            house'slow 1 &p=1'=-17 house'slow 1 p=1&'=-21 house'slow 1 p=1&&p=1'=-21 house'slow 1 p=1&|p=1'=-21 house'slow 1 p=1|&p=1'=-21
            4*person(0,0) house'rush 1 p>0&p<3&v=0'=0 of(0,4)=0 of(1,4)=1 of(2,4)=1 of(3,4)=0
            house'rush 1 p=0|p=1&p=2'=1 of(0,4)=1 of(1,4)=0 of(2,4)=0
            house'rush 1 p=0&p=1|p=2'=2 of(0,4)=0 of(1,4)=0 of(2,4)=1
            house'rush 1 p=3|p=0&p=1|p=2'=3 of(0,4)=0 of(1,4)=0 of(2,4)=1 of(3,4)=1
            """);
        sentence("F: !F", """
            house'rush 1 !'=-18 house'rush 1 !)'=-18 house'rush 1 p=1!'=-20 house'rush 1 !&p=1'=-18 house'rush 1 p!=1'=-18
            4*person(0,0) house'rush 1 !p=0&p<2'=0 of(0,4)=0 of(1,4)=1 of(2,4)=0
            house'rush 1 !p=0|p=0'=1 of(0,4)=1 of(1,4)=1 house'rush 1 !!p=1'=2 of(0,4)=0 of(1,4)=1
            house'rush 1 !(p=0|p=1)'=3 of(0,4)=0 of(1,4)=0 of(2,4)=1
            """);
        sentence("F: (E)", """
            house'rush 1 ()'=-18 house'rush 1 (p=1'=-21 house'rush 1 p=1)'=-20 house'rush 1 (p=1))'=-22 house'rush 1 (p=1)p=1'=-22
            house'rush 1 p=1(p=2)'=-20 house'rush 1 (p=1;late 1'=-21 house'rush 1 ((p=1)'=-23 house'rush 1 (p=1|)'=-22 house'rush 1 ('=-18
            3*person(0,0) house'rush 1 (p=0|p=1)&p=1'=0 of(0,4)=0 of(1,4)=1
            house'rush 1 p=1&(p=0|p=1)'=1 of(0,4)=0 of(1,4)=1 house'rush 1 (p=2)'=2 of(2,4)=1 of(0,4)=0
            """);
        sentence("a TEST: p or k or v or c or d or s", """
            house'rush 1 o=1'=-17 house'rush 1 q=1'=-17 house'rush 1 j=1'=-17 house'rush 1 l=1'=-17 house'rush 1 u=1'=-17 house'rush 1 w=1'=-17
            house'rush 1 b=1'=-17 house'rush 1 e=1'=-17 house'rush 1 r=1'=-17 house'rush 1 t=1'=-17 house'rush 1 P=1'=-17 house'rush 1 =1'=-17
            house'rush 1 1=p'=-17 house'rush 1 pk=1'=-18 house'rush 1 p=v'=-19
            house'rush 1 p=1|k=1|v=1|c=1|d=1|s=1'=0
            """);
        sentence("one of < = >", """
            house'rush 1 p;1'=-18 house'rush 1 p?1'=-18 house'rush 1 p<=1'=-19 house'rush 1 p==1'=-19 house'rush 1 p1'=-18
            3*person(0,0) house'rush 1 p<1;rush 10 p=1;slow 50 p>1'=0 of(0,4)=1 of(1,4)=10 of(2,4)=-50
            house'rush 1 p<0;rush 2 p=0;rush 4 p>0'=1 of(0,4)=2 of(1,4)=4
            """);
        sentence("a TEST: a number likewise", """
            house'rush 1 p='=-19 house'rush 1 p=a'=-19 house'rush 1 p=00'=-20 house'rush 1 p=100'=-21 house'rush 1 p=-1'=-19
            person(0,0) house'rush 1 p<99;rush 2 p>99;rush 4 p<10;rush 8 p=10'=0 of(0,4)=5
            house'rush 1 p>99|k>99|v>99|c>99|d>99|s>99'=1 of(0,4)=0 house'rush 1 p<99&k<99&v<99&c<99&d<99&s<99'=2 of(0,4)=1
            """);
        sentence("of one of PEOPLE p its number, k its KIND, v its v", """
            person(0,0) 4*person(1,5) person(6,9)
            house'rush 1 p=0;rush 2 p=5;rush 4 k=0;rush 8 k=6;rush 16 v=0;rush 32 v=9'=0 of(0,4)=21 of(1,4)=0
            of(5,4)=33 // 2 + 8 + 32, v less
            house'rush 1 p>4;rush 2 k>5;rush 4 v>8;rush 8 p>5;rush 16 k>6;rush 32 v>9'=1 of(0,4)=0 of(5,4)=-2
            """);
        sentence("c its CLOCK", """
            2*person(0,0) use(1,1) house'rush 1 c=0;rush 2 c=1;rush 4 c>1'=0 of(0,4)=1 of(1,4)=2 use(1,0) of(1,4)=1
            """);
        sentence("d DAY modulo 7", """
            person(0,0) house'rush 1 d=0;rush 2 d=6;rush 4 d>6;rush 8 d=1'=0 of(0,4)=1 day() of(0,4)=8 5*day() of(0,4)=2
            day() told(0)=7 of(0,4)=1 day() of(0,4)=8 on(5,10)=-2 on(6,10)=-1
            """);
        sentence("s SETS", """
            person(0,0) house'rush 1 s=0;rush 2 s=8;rush 4 s=9;rush 8 s>9'=0 of(0,4)=1 8*day() of(0,4)=2 day() of(0,4)=4 day() of(0,4)=4
            set(1,1) of(0,4)=1 day() of(0,4)=0 on(8,10)=-4 on(20,10)=-4
            """);
        sentence("At most 5 of ! and ( are open", """
            house'slow 1 (((((p=1)))))'=0 house'slow 1 ((((((p=1))))))'=-22 house'slow 1 !!!!!p=1'=1 house'slow 1 !!!!!!p=1'=-22
            house'slow 1 !(!(!p=1))'=2 house'slow 1 !(!(!(p=1)))'=-22 house'slow 1 (!(!(p=1)))'=3 house'slow 1 (!(!(!p=1)))'=-22
            house'slow 1 (((((!p=1)))))'=-22 house'slow 1 !!!!!(p=1)'=-22 house'slow 1 ((((('=-22 house'slow 1 (((((('=-22
            """);
        sentence("a ( is open till its )", """
            house'slow 1 (((((p=1)))))|(((((p=2)))))&(((((p=3)))))'=0
            house'slow 1 ((((p=1)|(p=2))))'=1
            house'slow 1 (p=1|((((p=2)))))'=2
            house'slow 1 (p=1|(((((p=2))))))'=-26
            house'slow 1 ((((p=1))))|((((((p=2'=-34
            house'slow 1 (((((p=1)|(p=2)))))'=3
            house'slow 1 (((((p=1|(p=2'=-26
            new 3*person(0,0) house'rush 1 p=9|p<2&(p=9|p<2&(p=9|p<2&(p=9|p<2&(p=9|p<2&(p=9|p<2&p>0)))))'=0 of(0,4)=0 of(1,4)=1 of(2,4)=0
            """);
        sentence("a ! is open till its F ends", """
            house'slow 1 !!!!!p=1&!!!!!p=2|!!!!!p=3'=0 house'slow 1 (!p=1&((((p=2)))))'=1 house'slow 1 (!p=1&(((((p=2))))))'=-27
            house'slow 1 !((((p=1))))'=2 house'slow 1 !(((((p=1)))))'=-22 house'slow 1 !!!!(p=1|p=2)|!!!!!p=2'=3
            house'slow 1 !!!!(p=1|!p=2)'=-26 house'slow 1 !(!p=1|!!!p=1)'=4
            new house'slow 1 !(!p=1|!!!!p=1)'=-27
            """);
    }

    private static void marginAndTaken() throws Exception {
        sentence("MARGIN of one: the n of all rush whose E holds, less those of all slow, together (may be below 0)", """
            3*person(0,5) house'rush 3 p=0;slow 9 p>0;rush 4 p<2;slow 1 p=0'=0 of(0,4)=6 of(1,4)=-5 of(2,4)=-9 of(2,6)=9
            house'rush 5 p=3'=1 of(0,4)=0
            new person(0,0) feed'slow 99 p<9' 7*feed';slow 99 p<9' house()=0 of(0,4)=-792 of(0,6)=792 of(0,7)=2376
            """);
        sentence("RASH, TOLD: v less", """
            person(3,9) person(6,9) person(3,0) person(6,0) person(0,9) person(1,9)
            of(0,4)=-9 of(1,4)=-9 of(2,4)=0 of(3,4)=0 of(4,4)=0 of(5,4)=0
            house'rush 9 p<9'=0 of(0,4)=0 of(1,4)=0 of(2,4)=9 of(5,4)=9
            new person(2,9) person(4,9) person(5,9) of(0,4)=0 of(1,4)=0 of(2,4)=0
            """);
        sentence("TAKEN: PERSON, RASH: 0. LEARNING: BELIEF. OFF: BELIEF and v", """
            person(0,9) person(3,9) person(1,9) person(2,9) person(2,0)
            believe(0,60) believe(1,60) believe(2,60) believe(3,60) believe(4,-60)
            of(0,5)=0 of(1,5)=0 of(2,5)=60 of(3,5)=69 of(4,5)=-60 believe(2,-60) of(2,5)=-60
            """);
        sentence("WISE: BELIEF, and, if SETS are below 3, the half (cut toward 0) of CHANGE", """
            person(4,0) believe(0,10) of(0,5)=10 set(0,5) of(0,5)=12 set(0,0) of(0,5)=8 set(0,1) of(0,5)=10 set(0,0) of(0,5)=10
            set(0,2) of(0,5)=11 set(0,0) of(0,5)=9 set(1,60) of(0,5)=40 set(1,-60) of(0,5)=-50
            day() told(1)=1 of(0,5)=-50 day() told(1)=2 of(0,5)=-50 day() told(1)=3 of(0,5)=10 on(0,10)=10
            set(1,-54) of(0,5)=13 on(2,10)=13 on(3,10)=10 on(4,10)=10 on(30,10)=10 4*day() told(1)=4 of(0,5)=10 5*day() told(1)=9 of(0,5)=10
            """);
        sentence("CHANCE: as OFF, less the half (cut) of how far, without sign, the two CLOCKS are apart", """
            person(5,9) believe(0,20) of(0,5)=29 set(0,1) of(0,5)=29 set(0,2) of(0,5)=28 set(0,3) of(0,5)=28
            set(0,-1) of(0,5)=29 set(0,-3) of(0,5)=28 set(0,60) of(0,5)=-1 set(1,60) of(0,5)=29 set(1,-60) of(0,5)=-31
            set(0,-60) of(0,5)=29 set(1,60) of(0,5)=-31
            """);
        sentence("TOLD: its ROW at DAY modulo 4", """
            person(6,0) row(0,0,9) row(0,1,1) row(0,2,2) row(0,3,3) believe(0,50)
            of(0,5)=9 day() of(0,5)=1 day() of(0,5)=2 day() of(0,5)=3 day() told(0)=4 of(0,5)=9 on(3,10)=3 on(4,10)=9
            """);
        sentence("LATE of one: TAKEN, less how FAST its CLOCK is, less MARGIN (below 0: so many minutes EARLY)", """
            person(1,0) believe(0,7) set(0,4) house'rush 2 c=0;slow 9 c=1'=0 of(0,6)=1 set(0,5) of(0,6)=0 set(0,6) of(0,6)=-1
            set(1,-60) use(0,1) of(0,6)=76
            """);
        sentence("COST of it: its minutes LATE or EARLY, times what one costs", """
            person(0,0) of(0,7)=0 set(0,-1) of(0,7)=3 set(0,1) of(0,7)=1 set(0,60) of(0,7)=60 set(0,-60) of(0,7)=180
            house'late 99;early 98'=0 of(0,7)=5940 set(0,60) of(0,7)=5880 set(0,0) of(0,7)=0 house'late 0;early 0'=1 set(0,60) of(0,7)=0
            set(0,-60) of(0,7)=0
            """);
    }

    private static void aDayGoes() throws Exception {
        sentence("A DAY goes: all come (COST of all, together)", """
            day()=0 person(0,0) day()=0 set(0,5) day()=5 person(3,9) day()=17 // 5, and 12 for 4 LATE
            new set(0,5) person(0,0) person(3,9) day()=17
            """);
        sentence("by how all is ahead of that: COST is of BELIEF as it was, BELIEF comes nearer behind it", """
            person(1,9) believe(0,10) day()=30 of(0,3)=1 day()=3 of(0,3)=1
            """);
        sentence("LEARNING, WISE: BELIEF comes nearer; the others' stays", """
            person(0,9) person(1,9) person(2,9) person(3,9) person(4,9) person(5,9) set(0,60) day()
            of(0,3)=0 of(1,3)=54 of(2,3)=0 of(3,3)=0 of(4,3)=54 of(5,3)=0 new person(6,9) set(0,60) day() of(0,3)=0
            """);
        sentence("nearer to how FAST its CLOCK is by v tenths of what is between (cut toward 0)", """
            person(1,0) person(1,1) person(1,9) set(0,9) day() of(0,3)=0 of(1,3)=0 of(2,3)=8
            believe(1,-1) day() of(1,3)=0 day() of(1,3)=0 of(2,3)=8
            believe(1,18) day() of(1,3)=18 believe(1,19) day() of(1,3)=18 believe(0,60) day() of(0,3)=60
            believe(2,10) day() of(2,3)=10 believe(2,11) day() of(2,3)=10
            set(0,60) believe(2,-60) day() of(2,3)=48 set(0,-60) believe(2,60) believe(1,60) day() of(2,3)=-48 of(1,3)=48
            set(1,30) use(2,1) believe(2,0) day() of(2,3)=27
            """);
        sentence("DAY is 1 more, SETS 1 more (9 at most)", """
            set(0,0) told(0)=0 day() told(0)=1 told(1)=1 7*day() told(1)=8 day() told(1)=9 2*day() told(1)=9 told(0)=11
            """);
        sentence("One HEARS the wireless: BELIEF becomes how FAST its CLOCK is", """
            person(0,0) person(1,0) set(0,60) set(1,-60) use(1,1) hear(0)=60 of(0,3)=60 of(1,3)=0 hear(1)=-60 of(1,3)=-60 of(0,3)=60
            ?hear(2)=-10001 ?hear(-1)=-10001 new ?hear(0)=-10001
            """);
        sentence("One TELLS another one who goes by the same CLOCK: BELIEF of that one becomes that of the first", """
            3*person(1,0) believe(0,60) believe(1,-60) tell(0,2)=60 of(2,3)=60 of(0,3)=60 tell(1,0)=-60 of(0,3)=-60 of(2,3)=60
            ?tell(0,0)=-10002 use(1,1) ?tell(0,1)=-10003 ?tell(1,0)=-10003 use(0,1) tell(0,1)=-60
            """);
        sentence("A CLOCK is SET: it is FAST by so much; CHANGE is what it is more than it was; SETS are 0", """
            3*day() set(1,-60)=-60 told(11)=-60 told(10)=0 told(2)=-60 told(1)=0 9*day() set(1,60)=120 told(2)=120 told(1)=0
            day() set(1,60)=0 told(2)=0 told(1)=0 told(11)=60
            """);
        sentence("day: STATE: DAY is 9999", """
            9998*day() day()=0 told(0)=9999 ?day()=STATE told(0)=9999 told(1)=9
            """);
    }

    // ---- Terms, part 2

    private static void daysToCome() throws Exception {
        sentence("DAYS also beyond 9999", """
            person(6,0) row(0,3,2) row(0,0,5) row(0,1,7) house'slow 1 d=3;slow 10 d=4;slow 20 d=5'=0 9999*day()
            ?day()=STATE on(0,10)=3 on(1,10)=15 on(2,10)=27 on(3,10)=0 ?on(2,0)=54
            on(30,0)=720 // ROW 105, MARGIN 5 and 50 and 80, each minute 3
            ?inTime()=3 ?padded(0,1)=15 padded(0,2)=27 ?ruled()=0 rule(0,3,2)=1 ?ruled()=36 book(0,3) book(0,15) ?looked()=-5 book(0,0) ?looked()=2
            ?rowOf(0,2,-1)=2 rowOf(0,2,0)=5 rowOf(0,2,1)=15 ?best(0,2,0)=15 best(0,2,1)=12 ?call(2)=15 ?lasts(0,3)=4 lasts(0,0)=1
            """);
        sentence("ON n DAYS (0 .. 30): COST of all of them, together", """
            person(3,1) person(0,0) on(0,0)=0 on(1,0)=3 on(29,0)=87 on(30,0)=90 ?on(31,0)=-10002 ?on(-1,0)=-10002 ?on(MAX,0)=-10002
            ?on(MIN,0)=-10002 set(0,1) on(30,0)=30 new on(0,0)=0 on(30,0)=0 ?on(31,0)=-10002
            """);
        sentence("ON: LATE, BELIEF of one behind them", """
            person(1,5) person(0,0) believe(0,40) on(0,10)=40 on(0,20)=40 on(1,10)=20 on(1,20)=20 on(2,20)=10 on(30,20)=1 on(30,10)=1
            on(30,11)=0 on(30,21)=0 ?on(0,9)=-10001 ?on(0,19)=-10001 ?on(31,10)=-10002 ?on(-1,20)=-10002 ?on(0,12)=-10001 ?on(0,22)=-10001
            4*person(0,0) believe(5,3) on(0,15)=0 on(0,25)=3 ?on(0,16)=-10001 ?on(0,26)=-10001
            """);
        sentence("IN TIME: the fewest DAYS (0 .. 30) behind which nobody is LATE by more than 0 (-5: not by then)", """
            person(0,0) inTime()=0 set(0,-1) inTime()=-5 set(0,1) inTime()=0
            new person(1,1) believe(0,60) set(0,-60) // 120 LATE, a tenth less each DAY, cut; 9 from the 29th on
            house'rush 9 d=1'=0 inTime()=29 house'rush 9 d=2'=1 inTime()=30 house'rush 9 d=3'=2 inTime()=-5 on(30,10)=9
            new person(0,0) person(0,0) house'slow 1 p=1&d<2'=0 inTime()=2 house'slow 1 d<2;slow 1 p=0&d<3'=1 inTime()=3
            """);
        sentence("inTime: nobody is there: 0", "inTime()=0 set(0,-60) inTime()=0");
        sentence("WORST: who is LATE most (of several the first; -5: nobody is there)", """
            worst()=-5 person(0,0) worst()=0 person(3,1) worst()=1 person(3,1) worst()=1 person(3,2) worst()=3
            set(0,60) worst()=3 use(0,1) worst()=0 new 6*person(0,0) worst()=0 set(0,60) worst()=0 use(5,1) worst()=5
            """);
        sentence("ORDER: who comes as the k-th (least LATE first, of several the lesser number)", """
            ?order(0)=NONE person(3,2) order(0)=0 ?order(1)=NONE ?order(-1)=NONE person(0,0) person(3,2) person(0,0) person(3,9) person(2,1)
            order(0)=1 order(1)=3 order(2)=5 order(3)=0 order(4)=2 order(5)=4 ?order(6)=NONE ?order(MAX)=NONE ?order(MIN)=NONE
            set(0,60) order(0)=1 order(5)=4
            """);
    }

    private static void settings() throws Exception {
        sentence("BEST of a CLOCK and n DAYS (1 .. 20)", """
            person(3,4) ?best(0,1,0)=4 best(0,20,0)=4 best(0,20,1)=0 best(1,1,1)=12 best(1,20,1)=240
            ?best(0,0,0)=-10002 ?best(0,21,0)=-10002 ?best(0,0,1)=-10002 ?best(0,21,1)=-10002 ?best(0,MIN,0)=-10002 ?best(0,MAX,0)=-10002
            ?best(2,1,0)=-10001 ?best(-1,1,0)=-10001 ?best(0,1,-1)=-10001 ?best(0,1,2)=-10001
            """);
        sentence("by how much (-30 .. 60) it should be SET", """
            person(0,0) house'slow 61 p=0'=0 best(0,1,0)=60 best(0,1,1)=3 house'slow 60 p=0'=1 best(0,1,0)=60 best(0,1,1)=0
            house'rush 30 p=0'=2 best(0,1,0)=-30 best(0,1,1)=0 house'rush 31 p=0'=3 best(0,1,0)=-30 best(0,1,1)=1
            """);
        sentence("BEST: of several the least", """
            best(0,1,0)=-30 best(0,1,1)=0 2*person(0,0) best(1,1,0)=-30 house'late 1;slow 3 p=0'=0 best(0,1,0)=0 best(0,1,1)=3
            house'late 0'=1 best(0,5,0)=-30 house'early 0'=2 best(0,5,0)=0
            """);
        sentence("BEST: it should be SET now: SETS are 0, CHANGE is what it is more, also if it is so already", """
            person(4,0) set(0,20) 3*day() best(0,1,0)=-20 best(0,1,1)=0
            new person(0,0) 5*day() house'slow 7 s=0;slow 40 s>3'=0 best(0,1,0)=7 best(0,1,1)=0
            """);
        sentence("ROW of a CLOCK and n (1 .. 4)", """
            person(3,4) ?rowOf(0,1,-1)=1 rowOf(0,4,-1)=4 rowOf(0,1,0)=5 rowOf(0,4,3)=5 ?rowOf(0,0,-1)=BAD ?rowOf(0,5,-1)=BAD ?rowOf(0,5,0)=BAD
            ?rowOf(0,MAX,0)=BAD ?rowOf(0,MIN,0)=BAD ?rowOf(2,1,-1)=NONE ?rowOf(-1,1,-1)=NONE rowOf(1,4,-1)=48
            """);
        sentence("rowOf: k -1 COST, else the k-th (-5: there are fewer). NONE: k (-1 .. 3)", """
            person(3,4) ?rowOf(0,1,-2)=NONE rowOf(0,1,-1)=1 rowOf(0,1,0)=5 rowOf(0,1,1)=-5 rowOf(0,1,3)=-5 ?rowOf(0,1,4)=NONE
            rowOf(0,2,1)=5 rowOf(0,2,2)=-5 rowOf(0,3,2)=5 rowOf(0,3,3)=-5 rowOf(0,4,3)=5 ?rowOf(0,4,4)=NONE ?rowOf(0,4,MAX)=NONE ?rowOf(0,4,MIN)=NONE
            """);
        sentence("ROW: 0, 5, 10, 15 or 20 FAST", """
            person(0,0) house'slow 99 d=0;slow 14 d=1;rush 99 d=2;slow 4 d=3'=0
            rowOf(0,4,0)=20 rowOf(0,4,1)=15 rowOf(0,4,2)=0 rowOf(0,4,3)=5 rowOf(0,4,-1)=338 // 79 * 3, 1, 99, 1
            """);
        sentence("ROW: of several the first as a row", """
            rowOf(0,4,0)=0 rowOf(0,4,3)=0 rowOf(0,4,-1)=0
            person(0,0) rowOf(1,2,0)=0 rowOf(1,2,1)=0 house'late 2;early 3;slow 3 p=0'=0 rowOf(0,2,0)=0 rowOf(0,2,1)=0 rowOf(0,2,-1)=12
            house'late 2;early 3;slow 13 p=0'=1 rowOf(0,3,0)=10 rowOf(0,3,1)=10 rowOf(0,3,2)=10
            new person(4,0) house'late 1;slow 9 p=0'=0 // by 15 and 5: 1 LATE, 1 EARLY; by 20 and 0: 1 EARLY, 1 EARLY
            rowOf(0,2,-1)=2 rowOf(0,2,0)=15 rowOf(0,2,1)=5
            """);
        sentence("ROW: SET also if it is so already", """
            person(4,0) set(0,20) rowOf(0,1,-1)=10 rowOf(0,1,0)=0
            new person(0,0) house'slow 5 s=0;slow 40 s>0'=0 day() rowOf(0,4,-1)=0 rowOf(0,4,0)=5 rowOf(0,4,3)=5
            """);
        sentence("LASTS of a CLOCK and f (-60 .. 60)", """
            person(0,0) set(0,50) ?lasts(0,60)=1 lasts(0,-60)=1 ?lasts(0,61)=BAD ?lasts(0,-61)=BAD ?lasts(0,MAX)=BAD ?lasts(0,MIN)=BAD
            ?lasts(2,0)=NONE ?lasts(-1,0)=NONE lasts(1,60)=1 lasts(1,-60)=1
            """);
        sentence("LASTS: the fewest DAYS (1 .. 30); -5: none", """
            lasts(0,0)=1 person(1,1) believe(0,60) set(0,-60) // not SET: 9 LATE from the 30th DAY on; at 51 FAST: 9, at 52: 8
            lasts(0,51)=30 lasts(0,52)=-5 lasts(0,-60)=1
            new person(1,1) believe(0,-60) set(0,60) // not SET: 9 EARLY from the 30th DAY on, 6 where it is slow; SET: 0, 3 LATE where it is slow
            house'slow 3 d=1'=0 lasts(0,-60)=30 house'slow 3 d=2'=1 lasts(0,-60)=-5
            new person(0,0) set(0,20) house'late 1;slow 40 d=1'=0 // 20 EARLY and, on DAY 1, 20 LATE
            lasts(0,19)=2 lasts(0,0)=2
            """);
        sentence("LASTS: COST is no less than what it would have been on that DAY had it not been SET", """
            person(0,0) set(0,20) lasts(0,20)=1 lasts(0,19)=-5 lasts(0,21)=1 lasts(0,-6)=-5 lasts(0,-7)=1
            """);
        sentence("MIXED of a CLOCK, a, b (-60 .. 60, a no more than b)", """
            person(0,0) ?mixed(0,-60,60,0)=7320 mixed(0,-60,60,1)=121 ?mixed(0,-61,60,0)=NO ?mixed(0,-60,61,0)=NO mixed(0,60,60,0)=60
            mixed(0,-60,-60,0)=180 ?mixed(0,61,61,0)=NO ?mixed(0,-61,-61,0)=NO mixed(0,5,5,0)=5 mixed(0,5,6,0)=11 ?mixed(0,6,5,0)=NO
            mixed(0,5,6,1)=2 ?mixed(2,0,0,0)=NO ?mixed(-1,0,0,0)=NO ?mixed(0,0,0,-1)=NO ?mixed(0,0,0,2)=NO ?mixed(0,MIN,MAX,0)=NO
            ?mixed(1,MAX,MIN,1)=NO mixed(1,-60,60,0)=0 mixed(1,-60,60,1)=1
            """);
        sentence("MIXED: a fraction in lowest terms", """
            mixed(0,-60,60,0)=0 mixed(0,-60,60,1)=1 person(0,0) mixed(0,0,0,0)=0 mixed(0,0,0,1)=1
            mixed(0,0,3,0)=3 mixed(0,0,3,1)=2 mixed(0,1,3,0)=2 mixed(0,1,3,1)=1 mixed(0,-1,1,0)=4 mixed(0,-1,1,1)=3
            """);
        sentence("MIXED: not SET: CHANGE, SETS stay", """
            person(4,0) set(0,10) mixed(0,5,5,0)=0 mixed(0,0,0,0)=15 3*day() house'slow 4 s=3'=0 mixed(0,4,4,0)=0 mixed(0,0,0,0)=12
            """);
        sentence("GO BY of one: of several the first", """
            ?goBy(0)=NONE person(0,0) ?goBy(0)=0 ?goBy(1)=NONE ?goBy(-1)=NONE use(0,1) goBy(0)=0 set(0,3) goBy(0)=1 set(1,-1) goBy(0)=0
            set(1,3) use(0,0) goBy(0)=0 set(0,4) goBy(0)=1 house'slow 8 c=1'=0 goBy(0)=0 of(0,2)=0
            """);
        sentence("CALL of n DAYS (1 .. 20)", """
            person(3,7) ?call(0)=BAD call(1)=7 call(20)=7 ?call(21)=BAD ?call(-1)=BAD ?call(MAX)=BAD ?call(MIN)=BAD
            """);
        sentence("CALL: by how many minutes (0 .. 60)", """
            person(0,0) set(0,1) call(1)=0 house'slow 60 p=0'=0 call(1)=59 set(0,0) call(1)=60 set(0,-1) call(1)=60 call(20)=60
            """);
        sentence("CALL: LATE that much less each, on each of these; of several the least", """
            call(1)=0 person(1,5) believe(0,40) call(1)=40 call(2)=40 call(3)=40 // 40, 20, 10
            call(4)=20 // 40, 20, 10, 5
            of(0,3)=40 house'late 1'=0 call(2)=20 house'late 0;early 0'=1 call(20)=0
            """);
        sentence("PADDED of one and n (0 .. 30)", """
            ?padded(0,0)=NONE person(3,4) padded(0,0)=4 padded(0,30)=4 ?padded(0,31)=BAD ?padded(0,-1)=BAD ?padded(0,MAX)=BAD ?padded(0,MIN)=BAD
            ?padded(1,0)=NONE ?padded(-1,0)=NONE
            """);
        sentence("PADDED: by how many minutes (0 .. 99), not LATE by more than 0; -5: by none", """
            person(0,0) padded(0,0)=0 set(0,60) padded(0,30)=0 set(0,0) house'slow 1 p=0'=0 padded(0,0)=1 house'slow 99 p=0'=1 padded(0,0)=99
            padded(0,30)=99 set(0,-1) padded(0,0)=-5 padded(0,30)=-5
            """);
        sentence("PADDED: on any of n DAYS from now and today", """
            person(0,0) house'slow 5 d=0;slow 9 d=1;slow 3 d=2;slow 20 d=5'=0 padded(0,0)=5 padded(0,1)=9 padded(0,2)=9 padded(0,4)=9
            padded(0,5)=20 2*day() padded(0,0)=3 padded(0,2)=3 padded(0,3)=20 house'slow 7 s=9'=1 told(1)=2 padded(0,6)=0 padded(0,7)=7
            new person(1,1) believe(0,-60) set(0,60) // 120 EARLY, a tenth less each DAY, cut: 15 behind 23, 14 behind 24, 9 from 29 on
            house'slow 30 d=2'=0 padded(0,29)=15 padded(0,30)=21 house'slow 30 d=3'=1 padded(0,30)=16
            new person(1,1) believe(0,60) set(0,-60) house'rush 99 d<2;rush 99 d>2;slow 90 d=2'=0 padded(0,30)=-5
            padded(0,1)=21 // 120 less 99
            """);
    }

    private static void tellings() throws Exception {
        sentence("TELL ONE: if less than without (-5: none)", """
            tellOne()=-5 person(1,0) tellOne()=-5 set(0,10) tellOne()=-5 person(1,0) tellOne()=-5 believe(0,1) ?tellOne()=1
            believe(1,1) tellOne()=-5 believe(0,20) tellOne()=10 // 20 is 10 LATE, 30; 1 is 9 EARLY
            believe(1,10) use(1,1) tellOne()=-5
            """);
        sentence("TELL ONE: COST no less than without is none", """
            person(1,0) person(1,0) set(0,10) house'late 1'=0 believe(0,15) believe(1,5) tellOne()=-5 believe(1,4) tellOne()=1
            new person(0,0) person(0,0) believe(0,9) tellOne()=-5
            """);
        sentence("TELL ONE: 10 times who tells and who is told, of several the first", """
            6*person(1,0) set(0,10) believe(3,8) believe(5,8) tellOne()=30 believe(5,10) tellOne()=50 believe(0,10) tellOne()=1
            believe(1,10) believe(2,10) believe(4,10) tellOne()=3 believe(3,10) believe(5,0) tellOne()=5 use(0,1) tellOne()=15
            """);
        sentence("KNOWN of one: the fewest DAYS (0 .. 20) (0: all have it)", """
            ?known(0)=NONE person(0,0) known(0)=0 ?known(1)=NONE ?known(-1)=NONE 5*person(0,0) known(5)=0 believe(5,1)
            ?known(5)=5 known(0)=1 believe(5,0) known(0)=0 believe(0,1) known(0)=5
            use(0,1) known(0)=0 known(1)=0
            """);
        sentence("KNOWN: TELLS the next one by numbers, round, who goes by the same CLOCK and has not", """
            6*person(0,0) believe(2,5) known(2)=5 // always the same one: 3, 4, 5, 0, 1
            known(0)=1 // 1 tells 2
            use(3,1) known(2)=4 use(0,1) known(2)=3 use(4,1) use(5,1) known(2)=1 known(3)=0 believe(4,5) known(4)=3 known(3)=1
            new 6*person(0,0) believe(0,7) believe(3,7) known(0)=2 // 1 and 4; then 2 and 5
            believe(3,0) believe(1,7) known(0)=4
            """);
        sentence("KNOWN: by how all is ahead of that DAY, nobody learning", """
            3*person(1,9) set(0,50) believe(0,40) known(0)=2 known(1)=1 of(1,3)=0
            """);
    }

    private static void seenOddsRulesBooks() throws Exception {
        sentence("SEEN told by hand: how LATE it came (-200 .. 200)", """
            person(0,0) ?see(0,201)=BAD ?see(0,-201)=BAD see(0,200)=1 see(0,-200)=2 ?see(0,MAX)=BAD ?see(0,MIN)=BAD
            new person(0,0) house'slow 99 p=0;slow 99 p=0;slow 2 p=0'=0 see(0,200)=1 fast(0,0)=1 fast(0,1)=0
            house'rush 99 p=0;rush 99 p=0;rush 2 p=0'=1 see(-1,0) see(0,-200)=1 fast(0,0)=1 fast(0,1)=0
            """);
        sentence("SEEN: 6 at most", """
            person(0,0) count(2)=0 5*see(0,0) see(0,0)=6 ?see(0,0)=FULL ?see(0,1)=FULL count(2)=6 fast(0,0)=1 fast(0,1)=0
            see(-1,0)=0 count(2)=0 see(0,0)=1
            """);
        sentence("see: person -1: none then, 0, whatever the other is", """
            see(-1,0)=0 person(0,0) see(0,5)=1 fast(0,0)=1 see(-1,201)=0 count(2)=0 fast(0,0)=121 see(0,5)=1 see(-1,MIN)=0 count(2)=0
            6*see(0,5) see(-1,MAX)=0 count(2)=0 ?see(-2,0)=NONE
            """);
        sentence("FAST of a CLOCK: how many numbers -60 .. 60; the least (-99: none)", """
            fast(0,0)=121 fast(0,1)=-60 person(0,0) see(0,60)=1 fast(0,0)=1 fast(0,1)=-60 see(-1,0) see(0,61)=1 fast(0,0)=0 fast(0,1)=-99
            see(-1,0) see(0,-60)=1 fast(0,0)=1 fast(0,1)=60 see(-1,0) see(0,-61)=1 fast(0,0)=0 fast(0,1)=-99
            see(-1,0) see(0,0)=1 ?fast(1,0)=121 fast(1,1)=-60 set(0,1) fast(1,0)=0 fast(1,1)=-99 fast(0,0)=1 fast(0,1)=0
            ?fast(2,0)=NONE ?fast(-1,0)=NONE ?fast(0,2)=NONE ?fast(0,-1)=NONE
            """);
        sentence("FAST: all of SEEN is so (today)", """
            2*person(0,0) use(1,1) see(0,7) see(1,0) fast(0,0)=1 fast(0,1)=-7 see(1,1) fast(0,0)=0 fast(0,1)=-99
            new person(5,0) use(0,1) see(0,-2) fast(0,0)=4 // half of how far is 2: 4 and 5, to both sides
            fast(0,1)=-5 new person(4,0) set(0,10) see(0,5) fast(0,0)=1 fast(0,1)=0
            """);
        sentence("WHO of a LATE: those of PEOPLE, as bits, who come LATE by just that today", """
            ?who(0)=0 person(0,0) ?who(0)=1 4*person(3,1) person(0,0) who(0)=33 who(1)=30 who(2)=0 who(-1)=0 set(0,60) who(-60)=33 who(-59)=30
            """);
        sentence("who: BAD: late (-200 .. 200)", """
            ?who(201)=BAD ?who(-201)=BAD who(200)=0 who(-200)=0 ?who(MAX)=BAD ?who(MIN)=BAD
            person(0,0) house'slow 99 p=0;slow 99 p=0;slow 2 p=0'=0 who(200)=1 house'rush 99 p=0;rush 99 p=0;rush 2 p=0'=1 who(-200)=1
            """);
        sentence("ODDS of n (-60 .. 60)", """
            person(0,0) ?odds(61,0)=NO ?odds(-61,0)=NO ?odds(61,1)=NO ?odds(-61,1)=NO odds(60,0)=1 odds(-60,0)=0 ?odds(MAX,0)=NO ?odds(MIN,0)=NO
            set(0,60) odds(-60,0)=1 set(0,59) odds(-60,0)=0 set(0,-60) odds(60,0)=1 odds(59,0)=0
            house'slow 1 p=0'=0 odds(60,0)=0 ?odds(0,2)=NO ?odds(0,-1)=NO
            new ?odds(0,0)=NO ?odds(0,1)=NO
            """);
        sentence("ODDS: if one of PEOPLE, each alike likely, HEARS: how likely; in lowest terms", """
            person(1,0) odds(0,0)=1 odds(0,1)=1 believe(0,5) odds(0,0)=1 3*person(1,0) odds(0,0)=1 odds(0,1)=4 odds(5,0)=1 odds(5,1)=1 odds(4,1)=4
            odds(-1,0)=0 odds(-1,1)=1 believe(1,5) odds(0,0)=0 odds(0,1)=1 of(0,3)=5
            new 2*person(0,0) 2*person(1,0) set(0,6) // 0, 1 are EARLY anyhow; who HEARS of 2, 3 comes at 0
            odds(-1,0)=1 odds(-1,1)=2 odds(0,1)=1
            new 4*person(0,0) 2*person(1,0) set(0,6) odds(-1,0)=2 odds(-1,1)=3
            """);
        sentence("MEAN: LATE of all today, together, by how many they are: in lowest terms (NO: nobody)", """
            ?mean(0)=NO ?mean(1)=NO person(0,0) mean(0)=0 mean(1)=1 ?mean(2)=NO ?mean(-1)=NO set(0,7) mean(0)=-7 mean(1)=1
            set(0,-7) mean(0)=7 3*person(3,1) mean(0)=31 mean(1)=4 set(0,1) mean(0)=-1 mean(1)=4 2*person(3,9) mean(0)=5 mean(1)=2
            set(0,60) mean(0)=-113 mean(1)=2
            new 3*person(0,0) person(3,3) mean(0)=3 mean(1)=4 person(3,2) mean(0)=1 mean(1)=1 set(1,1) use(0,1) mean(0)=4 mean(1)=5
            """);
        sentence("RULE told by hand: rows of a CLOCK, f (-60 .. 60) and n (1 .. 9)", """
            ?rule(0,61,1)=BAD ?rule(0,-61,1)=BAD ?rule(0,0,0)=BAD ?rule(0,0,10)=BAD ?rule(0,0,-2)=BAD ?rule(0,MAX,1)=BAD ?rule(0,MIN,1)=BAD
            ?rule(0,0,MAX)=BAD ?rule(0,0,MIN)=BAD ?rule(2,0,1)=NONE ?rule(-1,0,1)=NONE
            person(0,0) rule(0,60,1)=1 ruled()=60 rule(1,60,9)=2 ruled()=600 rule(0,-60,9)=3 ruled()=2220 rule(1,-60,1)=4 ruled()=2400
            """);
        sentence("RULE: 4 rows at most", """
            count(3)=0 3*rule(0,5,1) rule(1,6,2)=4 ?rule(0,5,1)=FULL ?rule(1,-60,9)=FULL count(3)=4
            person(0,0) ruled()=25 rule(0,0,-1)=0 ruled()=0 rule(0,5,1)=1 ruled()=5
            """);
        sentence("rule: n -1: none then, 0, whatever the others are", """
            rule(0,0,-1)=0 rule(0,7,1) person(0,0) ruled()=7 rule(2,0,-1)=0 count(3)=0 ruled()=0 rule(0,7,1) rule(-1,61,-1)=0 count(3)=0
            4*rule(0,7,1) rule(MAX,MIN,-1)=0 count(3)=0
            """);
        sentence("RULED: it is SET to f, then n DAYS go; COST of all these DAYS, together", """
            person(0,0) ?ruled()=0 rule(0,10,2) ?ruled()=20 rule(0,-10,1) ruled()=50 told(10)=0 told(0)=0
            house'slow 100'=-17 house'rush 50 s=0;slow 1 d=2'=0 ruled()=109 // 60, 10; then 40 EARLY less 1
            """);
        sentence("BOOK told by hand: 8 at most", """
            person(0,0) count(4)=0 7*book(0,0) book(0,0)=8 ?book(0,0)=FULL ?book(0,9)=FULL count(4)=8 looked()=-5 book(-1,0)=0 count(4)=0 book(0,1)=1
            """);
        sentence("book: BAD: late (-200 .. 200)", """
            person(0,0) ?book(0,201)=BAD ?book(0,-201)=BAD ?book(0,MAX)=BAD ?book(0,MIN)=BAD book(0,200)=1 book(0,-200)=2
            new person(0,0) house'slow 99 p=0;slow 99 p=0;slow 2 d=0;rush 99 d=1;rush 99 d=1;rush 99 d=1;rush 99 d=1;rush 2 d=1'=0
            book(0,200)=1 book(0,-200)=2 looked()=-5
            """);
        sentence("book: person -1: none then, 0, whatever the other is", """
            book(-1,0)=0 person(0,0) book(0,5) looked()=0 book(-1,201)=0 count(4)=0 looked()=-5 8*book(0,5) book(-1,MIN)=0 count(4)=0 ?book(-2,0)=NONE
            """);
        sentence("BOOK: on DAYS 0, 1, 2 .. from now (row by row). LOOKED at: the first that is not so (-5: none)", """
            ?looked()=-5 person(6,0) person(0,0) row(0,0,1) row(0,1,2) row(0,2,3) row(0,3,4) ?looked()=-5
            book(0,1) looked()=-5 book(1,0) looked()=-5 book(0,3) book(0,4) book(0,1) book(0,2) book(0,3) looked()=-5 book(0,5) looked()=7
            day() looked()=0 book(-1,0) book(0,2) book(0,3) book(0,5) book(0,2) looked()=2
            """);
    }

    private static void actsAndImage() throws Exception {
        sentence("ACTS with x (ints, wrapping)", """
            person(0,0) person(0,1) act(0,0,MAX)=MAX act(1,0,MAX)=MIN act(0,0,MIN)=MIN act(1,1,MIN)=MIN act(1,1,MAX)=MAX
            act(0,2,MAX)=-2 act(0,2,MIN)=0 act(0,2,1073741824)=MIN act(0,2,1073741823)=2147483646
            person(1,0) act(2,0,MAX)=MAX // 3 times MAX is MAX - 2, and 2
            act(2,0,715827883)=-2147483645 act(2,0,-715827883)=-2147483647
            new person(0,2) act(0,1,MIN)=2147483646
            new person(2,0) act(0,1,MIN)=MIN act(0,1,MAX)=-2147483647 act(0,2,MIN)=0
            new person(3,0) act(0,2,MAX)=-7 act(0,2,MIN)=7
            new person(4,0) act(0,2,MIN)=0 // 3 times MAX is MAX - 2, twice that is -6, and 6
            new person(0,0) person(5,0) act(1,0,MAX)=-2147483647 act(1,1,MIN)=MIN // MIN + 1 ^ 1
            new person(0,0) person(6,9) act(1,1,MAX)=MIN act(1,2,MAX)=7
            """);
        sentence("act: 0, and no TRACE then: nobody such, act", """
            act(0,0,5)=0 count(6)=0 person(0,0) person(0,3) act(0,2,5)=10 count(6)=3 act(2,2,5)=0 count(6)=0 trace(0)=NONE
            act(1,1,5)=3 trace(0)=2 act(1,3,5)=0 count(6)=0 trace(0)=NONE act(1,1,5) act(1,-1,5)=0 trace(0)=NONE
            act(1,0,5)=6 act(-1,0,5)=0 trace(0)=NONE count(6)=0 act(MAX,MIN,5)=0
            """);
        sentence("the body of its KIND, or, if that has none, of the next KIND above that has one", """
            person(0,4) person(1,4) person(2,4) person(3,4) person(4,4) person(5,4)
            act(0,0,10)=10 trace(0)=1 trace(1)=NONE act(1,0,10)=31 trace(0)=11 trace(1)=1 trace(2)=NONE act(2,0,10)=12 trace(0)=1 trace(1)=NONE
            act(3,0,10)=13 trace(0)=1 act(4,0,10)=34 trace(0)=11 trace(1)=1 act(5,0,10)=10 trace(0)=51 trace(1)=1 trace(2)=NONE
            act(1,1,10)=27 trace(0)=2 trace(1)=11 trace(2)=1 act(2,1,10)=-8 trace(0)=21 trace(1)=2 trace(2)=1 trace(3)=NONE
            act(4,1,10)=30 trace(0)=2 act(5,1,10)=-6 trace(0)=21 trace(1)=2 trace(2)=51 trace(3)=1 trace(4)=NONE
            act(3,2,10)=21 trace(0)=31 trace(1)=3 trace(2)=2 trace(3)=1 act(5,2,10)=-12 trace(0)=3 trace(1)=21
            new person(6,4) act(0,0,10)=10 trace(0)=1 act(0,1,10)=10 trace(0)=61 trace(1)=2 trace(2)=1
            act(0,2,10)=19 trace(0)=31 trace(1)=3 trace(2)=61 trace(3)=2 trace(4)=1 trace(5)=NONE count(6)=5
            """);
        sentence("THE TRACE: the bodies that ran in the latest act(), as they began; of the longest all are kept", """
            person(4,4) act(0,2,10)=52 // (27 - 4) * 2 and 6
            trace(0)=41 trace(1)=3 trace(2)=2 trace(3)=11 trace(4)=1 trace(5)=11 trace(6)=1 ?trace(7)=NONE ?trace(-1)=NONE count(6)=7
            ?trace(20)=NONE ?trace(19)=NONE ?trace(MAX)=NONE ?trace(MIN)=NONE act(0,0,1) trace(0)=11 trace(1)=1 ?trace(2)=NONE count(6)=2
            """);
        sentence("as: NONE: one of people, k; -6: it is of another KIND", """
            ?as(0,0)=NONE person(3,0) ?as(0,0)=0 as(0,3)=0 ?as(0,6)=-6 ?as(0,7)=NONE ?as(0,-1)=NONE ?as(1,0)=NONE ?as(-1,0)=NONE ?as(1,7)=NONE
            ?as(0,MAX)=NONE ?as(MIN,0)=NONE
            """);
        sentence("image: how many PEOPLE there are", "image()=0 person(0,0) image()=1 5*person(0,0) image()=6 undo()=6");
        sentence("undo: STATE: there is none", """
            ?undo()=STATE person(0,0) ?undo()=STATE image()=1 undo()=1 undo()=1 new image()=0 person(0,0) undo()=0 count(0)=0 ?of(0,0)=-10001
            """);
        sentence("THE IMAGE: all that there is", """
            person(6,3) person(1,5) house'late 5;early 2;rush 4 p=0'=0 set(0,10) set(1,-8)
            day() believe(1,20) use(1,1) row(0,0,1) row(0,1,2) row(0,2,3)
            row(0,3,4) see(0,-9) rule(0,20,1) rule(1,5,2) book(1,28) book(0,-8) feed'early 8' image()=2
            person(0,0) house';late 9'=1 set(1,30) set(0,5) day() day() believe(1,-7) use(1,0) row(0,0,9) row(0,1,9) row(0,2,9) row(0,3,9)
            see(-1,0) see(0,0) see(1,1) rule(0,0,-1) rule(1,60,9) book(-1,0) book(0,1) book(0,1) book(0,1) feed'xyz' undo()=2
            count(0)=2 count(1)=1 count(2)=1 count(3)=2 count(4)=2 count(5)=7
            told(0)=1 told(1)=1 told(2)=-8 told(3)=5 told(4)=2 told(10)=10 told(11)=-8
            of(1,2)=1 of(1,3)=20 of(0,5)=2 of(0,4)=1 of(0,6)=-9 on(1,10)=-8 on(2,10)=-7 on(3,10)=-10 of(1,6)=28 fast(0,0)=1 fast(0,1)=10 looked()=-5
            house()=1 told(4)=8 told(3)=3
            """);
        sentence("THE IMAGE: SEEN with who and how LATE", """
            2*person(0,0) use(1,1) see(0,-4) see(1,-7) image() see(-1,0) see(1,-9) see(0,9) undo()
            fast(0,0)=0 fast(1,0)=0 set(1,7) fast(0,0)=1 fast(0,1)=4 set(0,4) fast(1,1)=7
            """);
        sentence("THE IMAGE: RULE with CLOCK, f and n", """
            2*person(0,0) use(1,1) set(1,1) rule(0,10,1) rule(1,20,2) image() ruled()=71 // 10 and 1; 10 and 20, twice
            rule(0,0,-1) rule(1,30,3) rule(1,40,4) rule(1,50,5) undo() ruled()=71 count(3)=2 rule(0,0,1)=3
            """);
        sentence("THE IMAGE: BOOK with who and how LATE", """
            person(0,0) person(3,1) book(0,0) book(1,1) book(1,1) image() book(-1,0) book(1,2) book(0,3) book(0,4) book(0,5) undo()
            looked()=-5 count(4)=3 book(1,0)=4 looked()=3
            """);
        sentence("THE IMAGE: THE TAPE sign by sign", """
            feed'late 9;early 7' image() house()=0 feed'early 55;late 44;late 33' undo() count(5)=14 house()=0 told(3)=9 told(4)=7
            """);
        sentence("THE IMAGE: but THE IMAGE and THE TRACE", """
            person(4,4) act(0,2,1) image() act(0,0,1) undo()=1 trace(0)=11 trace(1)=1 trace(2)=NONE count(6)=2
            person(0,0) undo()=1 person(0,0) undo()=1 count(0)=1 act(0,1,1) undo() trace(0)=2 count(6)=3
            person(0,0) image()=2 person(0,0) undo()=2 undo()=2
            """);
        sentence("All is as THE IMAGE: places are free again, and as many", """
            image() 6*person(0,0) 5*house'late 1' 6*see(0,1) 4*rule(0,1,1) 8*book(0,1) 100*feed(97) undo()=0
            count(0)=0 count(1)=0 count(2)=0 count(3)=0 count(4)=0 count(5)=0 told(3)=3
            person(0,0)=0 4*person(0,0) person(0,0)=5 ?person(0,0)=FULL house'late 2'=0 see(0,1)=1 rule(0,1,1)=1 book(0,1)=1 feed(97)=1
            """);
        sentence("count: NONE; 0 when there is nothing", """
            count(0)=0 count(1)=0 count(2)=0 count(3)=0 count(4)=0
            count(5)=0 count(6)=0 ?count(7)=NONE ?count(-1)=NONE ?count(MAX)=NONE ?count(MIN)=NONE
            """);
    }

    // ---- Terms, part 3: of several refusals the first one told; they change nothing

    /** Something everywhere, and an image that is otherwise; SEEN and BOOK are so, so that any change of them is seen. */
    private static final String SOME = """
        person(1,5) person(6,2) person(3,4) person(4,7) house'late 4;early 2;rush 3 p=1&d<5;slow 2 s<3'=0
        set(0,12) set(1,-5) use(2,1) believe(0,7) believe(3,-9) row(1,0,6)
        row(1,2,9) row(1,3,4) see(0,1) rule(0,3,2) book(2,9) feed'early 5' image()=4
        day() set(0,9) day() believe(0,20) believe(3,31) row(1,1,8) see(-1,0) see(0,13) see(2,11) rule(1,4,3) book(-1,0) book(0,13) book(2,11)
        feed';rush 7 k>0' act(3,2,5)
        """;

    /** All places taken. */
    private static final String ALL = """
        image() person(1,5) person(6,2) person(3,4) person(4,7) person(0,0) person(5,3) 5*house'late 2' set(0,12) use(3,1) believe(0,7)
        6*see(4,-12) rule(0,3,2) rule(1,4,9) rule(0,-9,1) rule(1,60,3) 8*book(4,-12) 100*feed(97) act(3,2,5)
        """;

    private static void refused(String said, String calls) throws Exception {
        sentence(said, SOME + calls);
    }

    private static void refusalsOfHousesPeopleClocks() throws Exception {
        refused("SEEN and BOOK of these runs are so", "fast(0,0)=1 fast(0,1)=9 looked()=-5 count(2)=2 count(3)=2 count(4)=2 count(6)=7 count(0)=4");
        refused("feed: BAD", "?feed(-1)=BAD ?feed(128)=BAD house()=1");
        refused("person: NONE: kind; BAD: v", """
            ?person(7,0)=NONE ?person(-1,0)=NONE ?person(0,-1)=BAD ?person(6,10)=BAD ?person(7,10)=NONE ?person(-1,-1)=NONE person(6,9)=4
            """);
        refused("of: -10001: NONE", """
            ?of(4,0)=-10001 ?of(-1,0)=-10001 ?of(0,8)=-10001 ?of(0,-1)=-10001 ?of(9,9)=-10001 ?of(MAX,0)=-10001 ?of(MIN,7)=-10001
            ?of(0,MAX)=-10001 ?of(0,MIN)=-10001 of(3,0)=4 of(3,7)=92 // 31 - 1 - 9 + 2, each minute 4
            """);
        refused("use: NONE", """
            ?use(4,0)=NONE ?use(-1,1)=NONE ?use(0,2)=NONE ?use(0,-1)=NONE ?use(4,2)=NONE ?use(MAX,0)=NONE ?use(0,MIN)=NONE use(3,1)=0 use(2,0)=1
            """);
        refused("believe: -10001: NONE; -10002: BAD", """
            ?believe(4,0)=-10001 ?believe(-1,0)=-10001 ?believe(0,61)=-10002 ?believe(0,-61)=-10002 ?believe(4,61)=-10001 ?believe(-1,-61)=-10001
            believe(0,60)=20 believe(3,-60)=31
            """);
        refused("row: NONE: person, k; BAD; STATE: another KIND", """
            ?row(4,0,0)=NONE ?row(-1,0,0)=NONE ?row(1,4,0)=NONE ?row(1,-1,0)=NONE ?row(1,0,10)=BAD ?row(1,3,-1)=BAD
            ?row(0,0,0)=STATE ?row(2,0,0)=STATE ?row(3,3,9)=STATE ?row(4,0,10)=NONE
            ?row(1,4,10)=NONE ?row(0,4,0)=NONE ?row(0,0,10)=BAD ?row(0,0,-1)=BAD
            ?row(0,-1,-1)=NONE ?row(4,4,10)=NONE ?row(MIN,MAX,MIN)=NONE row(1,0,0)=6 row(1,1,9)=8
            new person(0,0) person(1,0) person(2,0) person(3,0) person(4,0) person(5,0)
            ?row(0,0,1)=STATE ?row(1,0,1)=STATE ?row(2,0,1)=STATE ?row(3,0,1)=STATE ?row(4,0,1)=STATE ?row(5,0,1)=STATE
            """);
        refused("set: -10001: NONE; -10002: BAD", """
            ?set(2,0)=-10001 ?set(-1,0)=-10001 ?set(0,61)=-10002 ?set(1,-61)=-10002 ?set(2,61)=-10001 ?set(-1,-61)=-10001 set(0,60)=51 set(1,-60)=-55
            """);
        refused("hear: -10001: NONE", "?hear(4)=-10001 ?hear(-1)=-10001 ?hear(MAX)=-10001 ?hear(MIN)=-10001 hear(3)=9 hear(2)=-5");
        refused("tell: -10001: NONE; -10002: BAD: one is both; -10003: they go by two CLOCKS", """
            ?tell(4,0)=-10001 ?tell(0,4)=-10001 ?tell(-1,0)=-10001 ?tell(0,-1)=-10001 ?tell(4,4)=-10001 ?tell(-1,-1)=-10001
            ?tell(0,0)=-10002 ?tell(3,3)=-10002 ?tell(2,0)=-10003 ?tell(0,2)=-10003 ?tell(2,3)=-10003 ?tell(2,2)=-10002 tell(0,3)=20 tell(1,0)=0
            """);
        refused("told: -10001: NONE", """
            ?told(-1)=-10001 ?told(5)=-10001 ?told(9)=-10001 ?told(12)=-10001 ?told(MAX)=-10001 ?told(MIN)=-10001
            ?told(0)=2 ?told(1)=1 ?told(2)=-3 ?told(3)=4 ?told(4)=2 ?told(10)=9 ?told(11)=-5
            """);
    }

    private static void refusalsOfQuestions() throws Exception {
        refused("on: -10001: NONE; -10002: BAD: n", """
            ?on(0,1)=-10001 ?on(0,9)=-10001 ?on(0,14)=-10001 ?on(0,19)=-10001 ?on(0,24)=-10001 ?on(0,-1)=-10001 ?on(0,30)=-10001
            ?on(0,MAX)=-10001 ?on(0,MIN)=-10001
            ?on(31,0)=-10002 ?on(-1,0)=-10002 ?on(31,13)=-10002 ?on(-1,23)=-10002 ?on(31,1)=-10001 ?on(-1,14)=-10001 ?on(31,24)=-10001
            """);
        refused("order: NONE: k", "?order(4)=NONE ?order(-1)=NONE ?order(MAX)=NONE ?order(MIN)=NONE");
        refused("best: -10001: NONE; -10002: BAD: n", """
            ?best(2,1,0)=-10001 ?best(-1,1,0)=-10001 ?best(0,1,2)=-10001 ?best(0,1,-1)=-10001 ?best(0,0,0)=-10002 ?best(1,21,1)=-10002
            ?best(2,0,0)=-10001 ?best(-1,21,0)=-10001 ?best(0,0,2)=-10001 ?best(0,21,-1)=-10001 ?best(2,21,2)=-10001
            """);
        refused("rowOf: NONE: clock, k; BAD: n", """
            ?rowOf(2,1,0)=NONE ?rowOf(-1,1,0)=NONE ?rowOf(0,1,4)=NONE ?rowOf(0,1,-2)=NONE ?rowOf(0,0,0)=BAD ?rowOf(0,5,-1)=BAD
            ?rowOf(2,0,0)=NONE ?rowOf(-1,5,0)=NONE ?rowOf(0,0,4)=NONE ?rowOf(0,5,-2)=NONE ?rowOf(0,0,3)=BAD
            """);
        refused("lasts: NONE; BAD", """
            ?lasts(2,0)=NONE ?lasts(-1,0)=NONE ?lasts(0,61)=BAD ?lasts(1,-61)=BAD ?lasts(2,61)=NONE ?lasts(-1,-61)=NONE
            """);
        refused("mixed: NO", """
            ?mixed(2,0,0,0)=NO ?mixed(-1,0,0,1)=NO ?mixed(0,-61,0,0)=NO ?mixed(0,0,61,0)=NO ?mixed(0,1,0,0)=NO ?mixed(0,60,-60,1)=NO
            ?mixed(0,0,0,2)=NO ?mixed(0,0,0,-1)=NO ?mixed(2,1,0,2)=NO
            """);
        refused("goBy: NONE", "?goBy(4)=NONE ?goBy(-1)=NONE ?goBy(MAX)=NONE ?goBy(MIN)=NONE");
        refused("call: BAD", "?call(0)=BAD ?call(21)=BAD ?call(-1)=BAD");
        refused("padded: NONE; BAD: n", """
            ?padded(4,0)=NONE ?padded(-1,0)=NONE ?padded(0,31)=BAD ?padded(0,-1)=BAD ?padded(4,31)=NONE ?padded(-1,-1)=NONE
            """);
        refused("known: NONE", "?known(4)=NONE ?known(-1)=NONE ?known(MAX)=NONE ?known(MIN)=NONE");
        refused("see: NONE; BAD: late", """
            ?see(4,0)=NONE ?see(-2,0)=NONE ?see(0,201)=BAD ?see(3,-201)=BAD ?see(4,201)=NONE ?see(-2,-201)=NONE see(3,200)=3
            """);
        refused("fast: NONE", "?fast(2,0)=NONE ?fast(-1,1)=NONE ?fast(0,2)=NONE ?fast(1,-1)=NONE ?fast(2,2)=NONE");
        refused("who: BAD", "?who(201)=BAD ?who(-201)=BAD");
        refused("odds: NO: n, part", "?odds(61,0)=NO ?odds(-61,1)=NO ?odds(0,2)=NO ?odds(0,-1)=NO ?odds(61,2)=NO");
        refused("mean: NO", "?mean(2)=NO ?mean(-1)=NO ?mean(MAX)=NO ?mean(MIN)=NO");
        refused("rule: NONE: clock; BAD: f, n", """
            ?rule(2,0,1)=NONE ?rule(-1,0,1)=NONE ?rule(0,61,1)=BAD ?rule(0,-61,1)=BAD ?rule(0,0,0)=BAD ?rule(0,0,10)=BAD ?rule(1,0,-2)=BAD
            ?rule(2,61,1)=NONE ?rule(-1,0,0)=NONE ?rule(2,0,10)=NONE ?rule(0,61,10)=BAD rule(0,60,9)=3
            """);
        refused("book: NONE; BAD: late", """
            ?book(4,0)=NONE ?book(-2,0)=NONE ?book(0,201)=BAD ?book(3,-201)=BAD ?book(4,201)=NONE ?book(-2,-201)=NONE book(3,-200)=3
            """);
        refused("trace: NONE", "?trace(7)=NONE ?trace(-1)=NONE ?trace(20)=NONE trace(6)=1");
        refused("as: NONE ahead of -6", "?as(4,0)=NONE ?as(-1,0)=NONE ?as(0,7)=NONE ?as(0,-1)=NONE ?as(4,7)=NONE ?as(0,4)=-6 ?as(3,1)=7");
        sentence("undo: STATE: there is none, whatever else there is", SOME.replace("image()=4", "") + "?undo()=STATE told(0)=2");
        refused("count: NONE", "?count(7)=NONE ?count(-1)=NONE");
        refused("act: nobody such, act: nothing but THE TRACE is changed", """
            act(4,0,1)=0 count(6)=0 ?act(4,0,1)=0 ?act(-1,0,1)=0 ?act(0,3,1)=0 ?act(0,-1,1)=0 ?act(4,3,1)=0
            """);
    }

    private static void refusalsWhereAllPlacesAreTaken() throws Exception {
        sentence("all places of these runs are taken",
            ALL + "count(0)=6 count(1)=5 count(2)=6 count(3)=4 count(4)=8 count(5)=100 fast(0,1)=12 looked()=-5");
        sentence("feed: BAD; FULL", ALL + "?feed(97)=FULL ?feed(0)=FULL ?feed(127)=FULL ?feed(-1)=BAD ?feed(128)=BAD");
        sentence("house: FULL ahead of a FAULT", ALL + "?house()=FULL count(5)=100");
        sentence("person: NONE: kind; BAD: v; FULL: 6", ALL + """
            ?person(0,0)=FULL ?person(6,9)=FULL ?person(7,0)=NONE ?person(-1,0)=NONE ?person(0,10)=BAD ?person(6,-1)=BAD ?person(7,10)=NONE
            """);
        sentence("see: NONE; BAD: late; FULL", ALL + """
            ?see(0,0)=FULL ?see(5,200)=FULL ?see(6,0)=NONE ?see(-2,0)=NONE ?see(0,201)=BAD ?see(0,-201)=BAD ?see(6,201)=NONE see(-1,0)=0 count(2)=0
            """);
        sentence("rule: NONE: clock; BAD: f, n; FULL", ALL + """
            ?rule(0,0,1)=FULL ?rule(1,60,9)=FULL ?rule(2,0,1)=NONE ?rule(-1,0,1)=NONE ?rule(0,61,1)=BAD ?rule(0,0,0)=BAD ?rule(0,0,10)=BAD
            ?rule(2,61,0)=NONE rule(0,0,-1)=0 count(3)=0
            """);
        sentence("book: NONE; BAD: late; FULL", ALL + """
            ?book(0,0)=FULL ?book(5,-200)=FULL ?book(6,0)=NONE ?book(-2,0)=NONE
            ?book(0,201)=BAD ?book(0,-201)=BAD ?book(6,201)=NONE book(-1,0)=0 count(4)=0
            """);
    }

    private static void questionsChangeNothing() throws Exception {
        String questions = """
            ?on(0,0) ?on(30,0) ?on(7,10) ?on(30,20) ?inTime() ?worst() ?order(0) ?best(0,20,0) ?best(1,1,1) ?rowOf(0,4,-1) ?rowOf(1,1,0) ?rowOf(1,1,3)
            ?lasts(0,60) ?lasts(1,-60) ?mixed(0,-60,60,0) ?mixed(1,3,3,1) ?goBy(0) ?call(20) ?call(1) ?padded(0,30) ?padded(0,0) ?tellOne() ?known(0)
            ?fast(0,0) ?fast(1,1) ?who(0) ?who(-200) ?odds(60,0) ?odds(-60,1) ?mean(0) ?mean(1) ?ruled() ?looked() ?of(0,4) ?of(0,7) ?told(3) ?as(0,0)
            ?trace(0) ?count(0)
            """;
        sentence("All that follows is asked, goes on from how all is, and changes nothing", SOME + questions);
        sentence("changes nothing where all places are taken", ALL + questions);
        sentence("changes nothing where there is nobody", questions);
    }
}

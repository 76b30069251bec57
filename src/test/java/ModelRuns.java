import java.util.ArrayList;
import java.util.List;
import java.util.Random;

/** Random runs of calls on FastClock and on a model that says the document's words once more, plainly and slowly. */
public final class ModelRuns {
    static final String[] NAMES = {"feed", "house", "person", "of", "use", "believe", "row", "set", "hear", "tell", "told", "day",
        "on", "inTime", "worst", "order", "best", "rowOf", "lasts", "mixed", "goBy", "call", "padded", "tellOne", "known", "see",
        "fast", "who", "odds", "mean", "rule", "ruled", "book", "looked", "act", "trace", "as", "image", "undo", "count"};
    static final int FAR = -10001;

    public static void main(String[] args) {
        int runs = args.length > 0 ? Integer.parseInt(args[0]) : 400;
        int wrong = 0;
        long calls = 0;
        int[] asked = new int[NAMES.length];
        for (int run = 0; run < runs && wrong < 5; run++) {
            Random random = new Random(7919L * run + 11);
            FastClock clock = new FastClock();
            Model model = new Model();
            StringBuilder told = new StringBuilder();
            int length = 60 + random.nextInt(260);
            int plenty = random.nextInt(4);
            List<int[]> waiting = new ArrayList<>();
            for (int i = 0; i < length; i++) {
                int[] c;
                if (!waiting.isEmpty()) c = waiting.remove(0);
                else if (i < 7 && plenty > 0) c = new int[] {2, random.nextInt(7), random.nextInt(10), 0, 0};
                else c = randomCall(random, model, waiting);
                asked[c[0]]++;
                long want = model.answer(c);
                long got = answer(clock, c);
                told.append(' ').append(NAMES[c[0]]).append('(').append(c[1]).append(',').append(c[2]).append(',').append(c[3]).append(',').append(c[4]).append(")=").append(got);
                calls++;
                if (got != want) {
                    wrong++;
                    System.out.println("run " + run + ":" + told + ", due is " + want);
                    break;
                }
            }
        }
        for (int k = 0; k < NAMES.length; k++) {
            if (asked[k] < 20 && runs >= 400) {
                wrong++;
                System.out.println(NAMES[k] + " was asked only " + asked[k] + " times");
            }
        }
        wrong += wrongTexts(runs * 300);
        System.out.println(wrong == 0 ? calls + " answers are as the model's" : wrong + " runs are not as the model's");
        if (wrong != 0) System.exit(1);
    }

    /** All short texts behind the beginning of a clause, and long ones by chance: FAULT, and MARGIN of each if it is a HOUSE. */
    static int wrongTexts(int many) {
        String signs = "p=10(!)&|; ";
        int wrong = 0;
        for (int length = 0; length <= 4; length++) {
            int all = (int) Math.round(Math.pow(signs.length(), length));
            for (int code = 0; code < all; code++) {
                StringBuilder text = new StringBuilder("rush 5 ");
                int rest = code;
                for (int i = 0; i < length; i++) {
                    text.append(signs.charAt(rest % signs.length()));
                    rest /= signs.length();
                }
                wrong += wrongText(text.toString());
                wrong += wrongText(text.append("p=1").toString());
            }
        }
        Random random = new Random(99);
        for (int i = 0; i < many && wrong < 5; i++) {
            List<int[]> fed = new ArrayList<>();
            feedText(random, fed);
            StringBuilder text = new StringBuilder();
            for (int[] call : fed) if (call[0] == 0 && text.length() < 100) text.append((char) call[1]);
            wrong += wrongText(text.toString());
        }
        return wrong;
    }

    static int wrongText(String text) {
        FastClock clock = new FastClock();
        Model model = new Model();
        int[][] people = {{2, 0, 3}, {2, 1, 0}, {2, 5, 9}, {4, 2, 1}, {8, 1, 20}};
        for (int[] call : people) {
            int[] c = {call[0], call[1], call[2], 0, 0};
            answer(clock, c);
            model.answer(c);
        }
        for (int i = 0; i < text.length(); i++) clock.feed(text.charAt(i));
        int fault = Model.fault(text);
        int house = clock.house();
        if (house != (fault < 0 ? 0 : -10 - fault)) {
            System.out.println("\"" + text + "\": " + house + ", the fault is " + fault);
            return 1;
        }
        if (fault < 0) model.world.house = text;
        for (int day = 0; day < 3; day++) {
            for (int p = 0; p < 3; p++) {
                if (clock.of(p, 4) == model.world.margin(p)) continue;
                System.out.println("\"" + text + "\": MARGIN of " + p + " on day " + day + " is " + clock.of(p, 4));
                return 1;
            }
            clock.day();
            model.world = model.world.next();
        }
        return 0;
    }

    static int near(Random random, int low, int high) {
        int dice = random.nextInt(30);
        if (dice == 0) return low - 1;
        if (dice == 1) return high + 1;
        if (dice == 2) return low;
        if (dice == 3) return high;
        if (dice == 4 && random.nextInt(4) == 0) return random.nextBoolean() ? Integer.MAX_VALUE : Integer.MIN_VALUE;
        return low + random.nextInt(high - low + 1);
    }

    static int someLate(Random random, Model model, int person) {
        if (random.nextInt(3) == 0 || person < 0 || person >= model.world.people.size()) return near(random, -200, 200);
        return model.world.late(person);
    }

    static int[] randomCall(Random random, Model model, List<int[]> waiting) {
        int k = random.nextInt(NAMES.length);
        if (k == 16 || k == 17) {
            // the dearest ones not too often: the model is slow
            if (random.nextInt(3) != 0) k = 4 + random.nextInt(8);
        }
        int people = Math.max(1, model.world.people.size());
        int p = near(random, 0, people - 1);
        int f = random.nextInt(3) == 0 ? near(random, -60, 60) : near(random, -5, 25);
        int c = near(random, 0, 1);
        switch (NAMES[k]) {
            case "feed":
                if (random.nextInt(3) == 0) return new int[] {k, near(random, 0, 127), 0, 0, 0};
                if (random.nextInt(40) == 0) {
                    for (int i = 0; i < 101; i++) waiting.add(new int[] {0, 'a', 0, 0, 0});
                    return new int[] {k, 'a', 0, 0, 0};
                }
                feedText(random, waiting);
                return waiting.remove(0);
            case "person": return new int[] {k, near(random, 0, 6), near(random, 0, 9), 0, 0};
            case "of": return new int[] {k, p, near(random, 0, 7), 0, 0};
            case "use": return new int[] {k, p, c, 0, 0};
            case "believe": return new int[] {k, p, f, 0, 0};
            case "row": {
                for (int i = 0; i < people; i++) {
                    if (i < model.world.people.size() && model.world.people.get(i).kind == 6 && random.nextBoolean()) p = i;
                }
                return new int[] {k, p, near(random, 0, 3), near(random, 0, 9), 0};
            }
            case "set": return new int[] {k, c, f, 0, 0};
            case "tell": return new int[] {k, p, near(random, 0, people - 1), 0, 0};
            case "told": return new int[] {k, random.nextBoolean() ? near(random, 0, 5) : near(random, 10, 11), 0, 0, 0};
            case "on": {
                int dice = random.nextInt(3);
                int what = dice == 0 ? near(random, 0, 0) : near(random, 10 * dice, 10 * dice + people - 1);
                return new int[] {k, near(random, 0, 30), what, 0, 0};
            }
            case "order": return new int[] {k, p, 0, 0, 0};
            case "best": return new int[] {k, c, near(random, 1, 20), near(random, 0, 1), 0};
            case "rowOf": return new int[] {k, c, near(random, 1, 4), near(random, -1, 3), 0};
            case "lasts": return new int[] {k, c, f, 0, 0};
            case "mixed": {
                int b = random.nextInt(6) == 0 ? near(random, -60, 60) : Math.min(60, Math.max(-60, f)) + random.nextInt(20);
                return new int[] {k, c, f, b, near(random, 0, 1)};
            }
            case "call": return new int[] {k, near(random, 1, 20), 0, 0, 0};
            case "padded": return new int[] {k, p, near(random, 0, 30), 0, 0};
            case "see": {
                if (random.nextInt(4) == 0) return new int[] {k, -1, near(random, -200, 200), 0, 0};
                return new int[] {k, p, someLate(random, model, p), 0, 0};
            }
            case "fast": return new int[] {k, c, near(random, 0, 1), 0, 0};
            case "who": return new int[] {k, someLate(random, model, p), 0, 0, 0};
            case "odds": return new int[] {k, f, near(random, 0, 1), 0, 0};
            case "mean": return new int[] {k, near(random, 0, 1), 0, 0, 0};
            case "rule": return new int[] {k, c, f, random.nextInt(6) == 0 ? -1 : near(random, 1, 9), 0};
            case "book": {
                if (random.nextInt(5) == 0) return new int[] {k, -1, near(random, -200, 200), 0, 0};
                World then = model.world.after(Math.min(30, model.booked.size()));
                int late = p >= 0 && p < then.people.size() && random.nextInt(4) != 0 ? then.late(p) : near(random, -200, 200);
                return new int[] {k, p, late, 0, 0};
            }
            case "act": return new int[] {k, p, near(random, 0, 2), random.nextBoolean() ? random.nextInt() : near(random, -9, 9), 0};
            case "trace": return new int[] {k, near(random, 0, 7), 0, 0, 0};
            case "as": return new int[] {k, p, near(random, 0, 6), 0, 0};
            case "count": return new int[] {k, near(random, 0, 6), 0, 0, 0};
            case "undo":
                if (random.nextInt(3) != 0) return new int[] {11, 0, 0, 0, 0};
                return new int[] {k, 0, 0, 0, 0};
            default: return new int[] {k, p, 0, 0, 0};
        }
    }

    static void feedText(Random random, List<int[]> waiting) {
        StringBuilder text = new StringBuilder();
        int clauses = 1 + random.nextInt(random.nextInt(8) == 0 ? 12 : 4);
        for (int i = 0; i < clauses; i++) {
            if (i > 0) text.append(';');
            int word = random.nextInt(5);
            text.append(word == 0 ? "late " : word == 1 ? "early " : word == 2 ? "slow " : "rush ");
            text.append(word < 2 ? random.nextInt(12) : random.nextInt(3) == 0 ? random.nextInt(100) : random.nextInt(10));
            if (word >= 2) text.append(' ').append(randomTerm(random, clauses > 4 ? 4 : random.nextInt(4)));
        }
        if (random.nextInt(8) == 0) text.setCharAt(random.nextInt(text.length()), "0 1!()&|;p=<>lx".charAt(random.nextInt(15)));
        if (random.nextInt(12) == 0) text.setLength(random.nextInt(text.length() + 1));
        for (int i = 0; i < text.length(); i++) waiting.add(new int[] {0, text.charAt(i), 0, 0, 0});
        waiting.add(new int[] {1, 0, 0, 0, 0});
    }

    static String randomTerm(Random random, int depth) {
        int dice = depth > 3 ? 0 : random.nextInt(7);
        if (dice < 3) {
            int what = random.nextInt(6);
            int n = what == 2 || what == 5 ? random.nextInt(10) : random.nextInt(7);
            if (random.nextInt(15) == 0) n = random.nextInt(100);
            return "" + "pkvcds".charAt(what) + "<=>".charAt(random.nextInt(3)) + n;
        }
        if (dice == 3) return "!" + randomTerm(random, depth + 1);
        if (dice == 4) return "(" + randomTerm(random, depth + 1) + ")";
        return randomTerm(random, depth + 1) + (dice == 5 ? "&" : "|") + randomTerm(random, depth + 1);
    }

    static long answer(FastClock x, int[] c) {
        switch (NAMES[c[0]]) {
            case "feed": return x.feed(c[1]);
            case "house": return x.house();
            case "person": return x.person(c[1], c[2]);
            case "of": return x.of(c[1], c[2]);
            case "use": return x.use(c[1], c[2]);
            case "believe": return x.believe(c[1], c[2]);
            case "row": return x.row(c[1], c[2], c[3]);
            case "set": return x.set(c[1], c[2]);
            case "hear": return x.hear(c[1]);
            case "tell": return x.tell(c[1], c[2]);
            case "told": return x.told(c[1]);
            case "day": return x.day();
            case "on": return x.on(c[1], c[2]);
            case "inTime": return x.inTime();
            case "worst": return x.worst();
            case "order": return x.order(c[1]);
            case "best": return x.best(c[1], c[2], c[3]);
            case "rowOf": return x.rowOf(c[1], c[2], c[3]);
            case "lasts": return x.lasts(c[1], c[2]);
            case "mixed": return x.mixed(c[1], c[2], c[3], c[4]);
            case "goBy": return x.goBy(c[1]);
            case "call": return x.call(c[1]);
            case "padded": return x.padded(c[1], c[2]);
            case "tellOne": return x.tellOne();
            case "known": return x.known(c[1]);
            case "see": return x.see(c[1], c[2]);
            case "fast": return x.fast(c[1], c[2]);
            case "who": return x.who(c[1]);
            case "odds": return x.odds(c[1], c[2]);
            case "mean": return x.mean(c[1]);
            case "rule": return x.rule(c[1], c[2], c[3]);
            case "ruled": return x.ruled();
            case "book": return x.book(c[1], c[2]);
            case "looked": return x.looked();
            case "act": return x.act(c[1], c[2], c[3]);
            case "trace": return x.trace(c[1]);
            case "as": return x.as(c[1], c[2]);
            case "image": return x.image();
            case "undo": return x.undo();
            default: return x.count(c[1]);
        }
    }

    static final class One {
        int kind, v, clock, belief;
        int[] row = new int[4];
    }

    /** How all is at one time; a day makes a new one. */
    static final class World {
        int[] fast = {0, 0};
        int day, sets, change;
        String house = "";
        List<One> people = new ArrayList<>();

        World copy() {
            World w = new World();
            w.fast = fast.clone();
            w.day = day;
            w.sets = sets;
            w.change = change;
            w.house = house;
            for (One o : people) {
                One n = new One();
                n.kind = o.kind;
                n.v = o.v;
                n.clock = o.clock;
                n.belief = o.belief;
                n.row = o.row.clone();
                w.people.add(n);
            }
            return w;
        }

        World withSet(int clock, int f) {
            World w = copy();
            w.change = f - fast[clock];
            w.fast[clock] = f;
            w.sets = 0;
            return w;
        }

        int costWord(String word, int without) {
            int n = without;
            if (house.isEmpty()) return n;
            for (String clause : house.split(";")) {
                String[] parts = clause.split(" ");
                if (parts[0].equals(word)) n = Integer.parseInt(parts[1]);
            }
            return n;
        }

        int margin(int p) {
            int m = 0;
            if (!house.isEmpty()) {
                for (String clause : house.split(";")) {
                    String[] parts = clause.split(" ");
                    if (parts.length < 3 || !isSo(parts[2], p)) continue;
                    m += (parts[0].equals("rush") ? 1 : -1) * Integer.parseInt(parts[1]);
                }
            }
            int kind = people.get(p).kind;
            return kind == 3 || kind == 6 ? m - people.get(p).v : m;
        }

        static int topSign(String e, char sign) {
            int open = 0;
            for (int i = 0; i < e.length(); i++) {
                if (e.charAt(i) == '(') open++;
                if (e.charAt(i) == ')') open--;
                if (open == 0 && e.charAt(i) == sign) return i;
            }
            return -1;
        }

        boolean isSo(String e, int p) {
            int or = topSign(e, '|');
            if (or >= 0) return isSo(e.substring(0, or), p) || isSo(e.substring(or + 1), p);
            int and = topSign(e, '&');
            if (and >= 0) return isSo(e.substring(0, and), p) && isSo(e.substring(and + 1), p);
            if (e.charAt(0) == '!') return !isSo(e.substring(1), p);
            if (e.charAt(0) == '(') return isSo(e.substring(1, e.length() - 1), p);
            One o = people.get(p);
            int left = 0;
            if (e.charAt(0) == 'p') left = p;
            if (e.charAt(0) == 'k') left = o.kind;
            if (e.charAt(0) == 'v') left = o.v;
            if (e.charAt(0) == 'c') left = o.clock;
            if (e.charAt(0) == 'd') left = day % 7;
            if (e.charAt(0) == 's') left = sets;
            int right = Integer.parseInt(e.substring(2));
            return e.charAt(1) == '<' ? left < right : e.charAt(1) == '=' ? left == right : left > right;
        }

        int taken(int p) {
            One o = people.get(p);
            if (o.kind == 0 || o.kind == 3) return 0;
            if (o.kind == 1) return o.belief;
            if (o.kind == 2) return o.belief + o.v;
            if (o.kind == 4) return o.belief + (sets < 3 ? change / 2 : 0);
            if (o.kind == 5) return o.belief + o.v - Math.abs(fast[0] - fast[1]) / 2;
            return o.row[day % 4];
        }

        int late(int p) {
            return taken(p) - fast[people.get(p).clock] - margin(p);
        }

        int costOfLate(int late) {
            if (late >= 0) return late * costWord("late", 3);
            return -late * costWord("early", 1);
        }

        int cost(int early) {
            int sum = 0;
            for (int p = 0; p < people.size(); p++) sum += costOfLate(late(p) - early);
            return sum;
        }

        World next() {
            World w = copy();
            for (int p = 0; p < people.size(); p++) {
                One o = people.get(p);
                if (o.kind == 1 || o.kind == 4) w.people.get(p).belief = o.belief + (fast[o.clock] - o.belief) * o.v / 10;
            }
            w.day = day + 1;
            w.sets = sets >= 9 ? 9 : sets + 1;
            return w;
        }

        World after(int n) {
            World w = this;
            for (int i = 0; i < n; i++) w = w.next();
            return w;
        }

        int costOfDays(int n, int early) {
            int sum = 0;
            World w = this;
            for (int i = 0; i < n; i++) {
                sum += w.cost(early);
                w = w.next();
            }
            return sum;
        }

        boolean allBy(int n) {
            for (int p = 0; p < people.size(); p++) if (late(p) > n) return false;
            return true;
        }
    }

    static final class Model {
        World world = new World();
        String tape = "";
        List<String> houses = new ArrayList<>();
        List<int[]> seen = new ArrayList<>(), rules = new ArrayList<>(), booked = new ArrayList<>();
        List<Integer> trace = new ArrayList<>();
        World imageWorld;
        String imageTape;
        List<String> imageHouses;
        List<int[]> imageSeen, imageRules, imageBooked;

        boolean one(int p) {
            return p >= 0 && p < world.people.size();
        }

        boolean in(int n, int low, int high) {
            return n >= low && n <= high;
        }

        long answer(int[] c) {
            int a = c[1], b = c[2], d = c[3], e = c[4];
            int size = world.people.size();
            switch (NAMES[c[0]]) {
                case "feed":
                    if (!in(a, 0, 127)) return -2;
                    if (tape.length() == 100) return -4;
                    tape += (char) a;
                    return tape.length();
                case "house": return house();
                case "person": {
                    if (!in(a, 0, 6)) return -1;
                    if (!in(b, 0, 9)) return -2;
                    if (size == 6) return -4;
                    One o = new One();
                    o.kind = a;
                    o.v = b;
                    world.people.add(o);
                    return size;
                }
                case "of": {
                    if (!one(a) || !in(b, 0, 7)) return FAR;
                    One o = world.people.get(a);
                    int[] all = {o.kind, o.v, o.clock, o.belief, world.margin(a), world.taken(a), world.late(a), world.costOfLate(world.late(a))};
                    return all[b];
                }
                case "use": {
                    if (!one(a) || !in(b, 0, 1)) return -1;
                    int was = world.people.get(a).clock;
                    world.people.get(a).clock = b;
                    return was;
                }
                case "believe": {
                    if (!one(a)) return FAR;
                    if (!in(b, -60, 60)) return FAR - 1;
                    int was = world.people.get(a).belief;
                    world.people.get(a).belief = b;
                    return was;
                }
                case "row": {
                    if (!one(a) || !in(b, 0, 3)) return -1;
                    if (!in(d, 0, 9)) return -2;
                    One o = world.people.get(a);
                    if (o.kind != 6) return -3;
                    int was = o.row[b];
                    o.row[b] = d;
                    return was;
                }
                case "set":
                    if (!in(a, 0, 1)) return FAR;
                    if (!in(b, -60, 60)) return FAR - 1;
                    world = world.withSet(a, b);
                    return world.change;
                case "hear":
                    if (!one(a)) return FAR;
                    return world.people.get(a).belief = world.fast[world.people.get(a).clock];
                case "tell":
                    if (!one(a) || !one(b)) return FAR;
                    if (a == b) return FAR - 1;
                    if (world.people.get(a).clock != world.people.get(b).clock) return FAR - 2;
                    return world.people.get(b).belief = world.people.get(a).belief;
                case "told":
                    if (a == 0) return world.day;
                    if (a == 1) return world.sets;
                    if (a == 2) return world.change;
                    if (a == 3) return world.costWord("late", 3);
                    if (a == 4) return world.costWord("early", 1);
                    return a == 10 || a == 11 ? world.fast[a - 10] : FAR;
                case "day": {
                    if (world.day == 9999) return -3;
                    int cost = world.cost(0);
                    world = world.next();
                    return cost;
                }
                case "on":
                    if (a < 0 || a > 30) return b == 0 || in(b, 10, 9 + size) || in(b, 20, 19 + size) ? FAR - 1 : FAR;
                    if (b == 0) return world.costOfDays(a, 0);
                    if (in(b, 10, 9 + size)) return world.after(a).late(b - 10);
                    return in(b, 20, 19 + size) ? world.after(a).people.get(b - 20).belief : FAR;
                case "inTime":
                    for (int n = 0; n <= 30; n++) if (world.after(n).allBy(0)) return n;
                    return -5;
                case "worst": {
                    int worst = -5;
                    for (int p = size - 1; p >= 0; p--) if (worst == -5 || world.late(p) >= world.late(worst)) worst = p;
                    return worst;
                }
                case "order": {
                    if (!one(a)) return -1;
                    List<Integer> all = new ArrayList<>();
                    for (int p = 0; p < size; p++) all.add(p);
                    all.sort((p, q) -> world.late(p) != world.late(q) ? Integer.compare(world.late(p), world.late(q)) : Integer.compare(p, q));
                    return all.get(a);
                }
                case "best": {
                    if (!in(a, 0, 1) || !in(d, 0, 1)) return FAR;
                    if (!in(b, 1, 20)) return FAR - 1;
                    int best = 0, least = -1;
                    for (int f = 60; f >= -30; f--) {
                        int cost = world.withSet(a, f).costOfDays(b, 0);
                        if (least == -1 || cost <= least) {
                            least = cost;
                            best = f;
                        }
                    }
                    return d == 0 ? best : least;
                }
                case "rowOf": {
                    if (!in(a, 0, 1) || !in(d, -1, 3)) return -1;
                    if (!in(b, 1, 4)) return -2;
                    int[] best = bestRow(world, a, b);
                    return d == -1 ? best[0] : d >= b ? -5 : best[d + 1];
                }
                case "lasts": {
                    if (!in(a, 0, 1)) return -1;
                    if (!in(b, -60, 60)) return -2;
                    World set = world.withSet(a, b);
                    for (int n = 1; n <= 30; n++) if (set.after(n - 1).cost(0) >= world.after(n - 1).cost(0)) return n;
                    return -5;
                }
                case "mixed": {
                    if (!in(a, 0, 1) || !in(b, -60, 60) || !in(d, -60, 60) || b > d || !in(e, 0, 1)) return Long.MIN_VALUE;
                    long sum = 0;
                    for (int f = b; f <= d; f++) {
                        World w = world.copy();
                        w.fast[a] = f;
                        sum += w.cost(0);
                    }
                    return lowest(sum, d - b + 1, e);
                }
                case "goBy": {
                    if (!one(a)) return -1;
                    int[] costs = new int[2];
                    for (int k = 0; k < 2; k++) {
                        World w = world.copy();
                        w.people.get(a).clock = k;
                        costs[k] = w.costOfLate(w.late(a));
                    }
                    return costs[1] < costs[0] ? 1 : 0;
                }
                case "call": {
                    if (!in(a, 1, 20)) return -2;
                    int best = 60;
                    for (int m = 60; m >= 0; m--) if (world.costOfDays(a, m) <= world.costOfDays(a, best)) best = m;
                    return best;
                }
                case "padded":
                    if (!one(a)) return -1;
                    if (!in(b, 0, 30)) return -2;
                    for (int m = 0; m <= 99; m++) {
                        boolean never = true;
                        for (int n = 0; n <= b && never; n++) if (world.after(n).late(a) - m > 0) never = false;
                        if (never) return m;
                    }
                    return -5;
                case "tellOne": {
                    int best = -5, least = world.cost(0);
                    for (int p = 0; p < size; p++) for (int q = 0; q < size; q++) {
                        if (p == q || world.people.get(p).clock != world.people.get(q).clock) continue;
                        World w = world.copy();
                        w.people.get(q).belief = w.people.get(p).belief;
                        if (w.cost(0) < least) {
                            least = w.cost(0);
                            best = 10 * p + q;
                        }
                    }
                    return best;
                }
                case "known": return one(a) ? known(a) : -1;
                case "see": return told(seen, 6, a == -1, one(a), in(b, -200, 200), new int[] {a, b});
                case "fast": {
                    if (!in(a, 0, 1) || !in(b, 0, 1)) return -1;
                    List<Integer> fit = new ArrayList<>();
                    for (int f = -60; f <= 60; f++) {
                        World w = world.copy();
                        w.fast[a] = f;
                        boolean so = true;
                        for (int[] s : seen) so &= w.late(s[0]) == s[1];
                        if (so) fit.add(f);
                    }
                    return b == 0 ? fit.size() : fit.isEmpty() ? -99 : fit.get(0);
                }
                case "who": {
                    if (!in(a, -200, 200)) return -2;
                    int bits = 0;
                    for (int p = 0; p < size; p++) if (world.late(p) == a) bits += 1 << p;
                    return bits;
                }
                case "odds": {
                    if (!in(a, -60, 60) || !in(b, 0, 1) || size == 0) return Long.MIN_VALUE;
                    int good = 0;
                    for (int p = 0; p < size; p++) {
                        World w = world.copy();
                        w.people.get(p).belief = w.fast[w.people.get(p).clock];
                        if (w.allBy(a)) good++;
                    }
                    return lowest(good, size, b);
                }
                case "mean": {
                    if (!in(a, 0, 1) || size == 0) return Long.MIN_VALUE;
                    long sum = 0;
                    for (int p = 0; p < size; p++) sum += world.late(p);
                    return lowest(sum, size, a);
                }
                case "rule": return told(rules, 4, d == -1, in(a, 0, 1), in(b, -60, 60) && in(d, 1, 9), new int[] {a, b, d});
                case "ruled": {
                    World w = world;
                    int cost = 0;
                    for (int[] r : rules) {
                        w = w.withSet(r[0], r[1]);
                        cost += w.costOfDays(r[2], 0);
                        w = w.after(r[2]);
                    }
                    return cost;
                }
                case "book": return told(booked, 8, a == -1, one(a), in(b, -200, 200), new int[] {a, b});
                case "looked":
                    for (int i = 0; i < booked.size(); i++) if (world.after(i).late(booked.get(i)[0]) != booked.get(i)[1]) return i;
                    return -5;
                case "act":
                    trace.clear();
                    if (!one(a) || !in(b, 0, 2)) return 0;
                    return run(a, world.people.get(a).kind, b, d);
                case "trace": return in(a, 0, Math.min(20, trace.size()) - 1) ? trace.get(a) : -1;
                case "as": {
                    if (!one(a) || !in(b, 0, 6)) return -1;
                    for (int k = world.people.get(a).kind; k >= 0; k = ABOVE[k]) if (k == b) return world.people.get(a).v;
                    return -6;
                }
                case "image":
                    imageWorld = world.copy();
                    imageTape = tape;
                    imageHouses = new ArrayList<>(houses);
                    imageSeen = new ArrayList<>(seen);
                    imageRules = new ArrayList<>(rules);
                    imageBooked = new ArrayList<>(booked);
                    return size;
                case "undo":
                    if (imageWorld == null) return -3;
                    world = imageWorld.copy();
                    tape = imageTape;
                    houses = new ArrayList<>(imageHouses);
                    seen = new ArrayList<>(imageSeen);
                    rules = new ArrayList<>(imageRules);
                    booked = new ArrayList<>(imageBooked);
                    return world.people.size();
                default: {
                    int[] counts = {size, houses.size(), seen.size(), rules.size(), booked.size(), tape.length(), trace.size()};
                    return in(a, 0, 6) ? counts[a] : -1;
                }
            }
        }

        static int told(List<int[]> rows, int most, boolean away, boolean there, boolean good, int[] row) {
            if (away) {
                rows.clear();
                return 0;
            }
            if (!there) return -1;
            if (!good) return -2;
            if (rows.size() == most) return -4;
            rows.add(row);
            return rows.size();
        }

        static long lowest(long above, long below, int part) {
            for (long d = below; d > 1; d--) {
                if (above % d == 0 && below % d == 0) return part == 0 ? above / d : below / d;
            }
            return part == 0 ? above : below;
        }

        static int[] bestRow(World w, int clock, int n) {
            if (n == 0) return new int[1];
            int[] best = null;
            for (int f = 0; f <= 20; f += 5) {
                World set = w.withSet(clock, f);
                int[] rest = bestRow(set.next(), clock, n - 1);
                int cost = set.cost(0) + rest[0];
                if (best != null && best[0] <= cost) continue;
                best = new int[n + 1];
                best[0] = cost;
                best[1] = f;
                System.arraycopy(rest, 1, best, 2, n - 1);
            }
            return best;
        }

        int known(int a) {
            int belief = world.people.get(a).belief, clock = world.people.get(a).clock, size = world.people.size();
            boolean[] has = new boolean[size];
            for (int p = 0; p < size; p++) has[p] = world.people.get(p).belief == belief;
            for (int n = 0; n <= 20; n++) {
                boolean all = true;
                for (int p = 0; p < size; p++) if (world.people.get(p).clock == clock && !has[p]) all = false;
                if (all) return n;
                boolean[] then = has.clone();
                for (int p = 0; p < size; p++) {
                    if (!has[p] || world.people.get(p).clock != clock) continue;
                    int q = (p + 1) % size;
                    while (q != p && (has[q] || world.people.get(q).clock != clock)) q = (q + 1) % size;
                    if (q != p) then[q] = true;
                }
                has = then;
            }
            return -5;
        }

        static final int[] ABOVE = {-1, 0, 0, 0, 1, 2, 3};
        static final int[][] BODIES = {{1, 2, 3}, {11, 0, 0}, {0, 21, 0}, {0, 0, 31}, {0, 0, 41}, {51, 0, 0}, {0, 61, 0}};

        int run(int p, int from, int what, int x) {
            int kind = from;
            while (BODIES[kind][what] == 0) kind = ABOVE[kind];
            int own = world.people.get(p).kind;
            int v = world.people.get(p).v;
            trace.add(BODIES[kind][what]);
            switch (BODIES[kind][what]) {
                case 1: return x + p;
                case 2: return run(p, own, 0, x) - v;
                case 3: return run(p, own, 1, x) * 2;
                case 11: return run(p, 0, 0, x * 3);
                case 21: return -run(p, 0, 1, x);
                case 31: return run(p, 0, 2, x) ^ 7;
                case 41: {
                    int first = run(p, 1, 2, x - 1);
                    return first + run(p, own, 0, 2);
                }
                case 51: return run(p, 2, 0, x) ^ p;
                default: return run(p, 3, 1, x) + v;
            }
        }

        int house() {
            if (houses.size() == 5) return -4;
            int fault = fault(tape);
            String text = tape;
            tape = "";
            if (fault >= 0) return -10 - fault;
            houses.add(text);
            world.house = text;
            return houses.size() - 1;
        }

        /** Sign by sign, by what may come next: another way than the program's. */
        static int fault(String text) {
            String word = "", open = "";
            int clauses = 1, digit = 0;
            char mode = 'w';
            for (int i = 0; i < text.length(); i++) {
                char c = text.charAt(i);
                boolean isDigit = c >= '0' && c <= '9';
                if ((mode == '2' || mode == 'u') && !(isDigit && digit != 0)) mode = mode == '2' ? 'n' : 'e';
                if (mode == 'e') while (open.endsWith("!")) open = open.substring(0, open.length() - 1);
                boolean condition = word.equals("slow ") || word.equals("rush ");
                if (mode == 'w') {
                    word += c;
                    boolean begins = false;
                    for (String w : new String[] {"late ", "early ", "slow ", "rush "}) {
                        begins |= w.startsWith(word);
                        if (w.equals(word)) mode = '1';
                    }
                    if (!begins) return i;
                } else if (mode == '1' || mode == 't') {
                    if (!isDigit) return i;
                    digit = c - '0';
                    mode = mode == '1' ? '2' : 'u';
                } else if (mode == '2') {
                    mode = 'n';
                } else if (mode == 'u') {
                    mode = 'e';
                } else if (mode == 'n' && condition) {
                    if (c != ' ') return i;
                    mode = 'f';
                } else if (mode == 'f') {
                    if (c == '!' || c == '(') {
                        if (open.length() == 5) return i;
                        open += c;
                    } else if ("pkvcds".indexOf(c) >= 0) {
                        mode = 's';
                    } else return i;
                } else if (mode == 's') {
                    if (c != '<' && c != '=' && c != '>') return i;
                    mode = 't';
                } else if (mode == 'e' && (c == '&' || c == '|')) {
                    mode = 'f';
                } else if (mode == 'e' && c == ')') {
                    if (!open.endsWith("(")) return i;
                    open = open.substring(0, open.length() - 1);
                } else {
                    if (c != ';' || !open.isEmpty() || clauses == 10) return i;
                    clauses++;
                    mode = 'w';
                    word = "";
                }
            }
            if (mode == 'u') mode = 'e';
            if (mode == '2') mode = 'n';
            boolean whole = mode == 'n' && (word.equals("late ") || word.equals("early ")) || mode == 'e' && open.indexOf('(') < 0;
            return whole ? -1 : text.length();
        }
    }
}

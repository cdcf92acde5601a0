import java.util.ArrayList;
import java.util.Comparator;
import java.util.List;
import java.util.Set;
import java.util.function.IntFunction;
import java.util.regex.Matcher;
import java.util.regex.Pattern;

/**
 * The document read a second time, without a thought of room or speed: worlds are copied whole, texts
 * are cut by patterns, sentences are functions. ModelTest holds the class against it.
 */
final class Model {
    static final int NONE = -1;
    private static final Set<String> WORDS = Set.of("man", "joined", "grey", "under", "order", "left", "right", "both",
        "foe", "clear", "rain", "lifts", "gives", "sleeps", "wakes", "soots", "goes", "hour", "east", "south", "west",
        "north", "or", "and", "not", "asleep", "sooted", "idle", "sees", "has", "brow", "heard", "lost", "number");
    private static final List<String> LIFTS = List.of("", "left", "right", "both");
    private static final List<String> SIDES = List.of("east", "south", "west", "north");
    private static final List<String> VERBS = List.of("lifts", "gives", "sleeps", "wakes", "soots", "goes", "hour");

    // ---- what is so

    private static final class Man {
        String name;
        int x;
        int y;
        int brow;
        boolean joined;
        boolean grey;
        int under = NONE;
        boolean asleep;
        boolean sooted;
        boolean pending;
        int heard;
        int order = NONE;
        int lost;

        Man copy() {
            Man other = new Man();
            other.name = name;
            other.x = x;
            other.y = y;
            other.brow = brow;
            other.joined = joined;
            other.grey = grey;
            other.under = under;
            other.asleep = asleep;
            other.sooted = sooted;
            other.pending = pending;
            other.heard = heard;
            other.order = order;
            other.lost = lost;
            return other;
        }

        int thick() {
            return sooted ? Math.min(9, brow + 3) : brow;
        }
    }

    private record Order(String name, int first, int second) { }

    private record Cell(int x, int y) {
        int far(int otherX, int otherY) {
            return Math.abs(x - otherX) + Math.abs(y - otherY);
        }
    }

    private static final class World {
        final List<Man> men = new ArrayList<>();
        final List<Order> orders = new ArrayList<>();
        final List<Cell> foes = new ArrayList<>();
        int clear = 2;
        int rain = 6;
        int hour;
        int lifts;
        private int seed;

        World copy() {
            World other = new World();
            for (Man man : men) {
                other.men.add(man.copy());
            }
            other.orders.addAll(orders);
            other.foes.addAll(foes);
            other.clear = clear;
            other.rain = rain;
            other.hour = hour;
            other.lifts = lifts;
            return other;
        }

        boolean visible(int m, int farOff) {
            int thick = men.get(m).thick();
            return thick != 0 && farOff <= thick * clear;
        }

        boolean sees(int who, int whom) {
            Man a = men.get(who);
            Man b = men.get(whom);
            return who != whom && !a.asleep && visible(whom, new Cell(a.x, a.y).far(b.x, b.y));
        }

        boolean reads(int who, int whom) {
            return men.get(who).under == whom && sees(who, whom);
        }

        int act(int verb, int m, int object) {
            Man man = verb == 6 ? null : men.get(m);
            switch (verb) {
                case 0:
                    return lift(m, object);
                case 1:
                    if (man.thick() == 0) {
                        return 1;
                    }
                    lift(m, orders.get(object).first());
                    lift(m, orders.get(object).second());
                    return 0;
                case 2:
                case 3:
                    if (man.asleep == (verb == 2)) {
                        return 1;
                    }
                    man.asleep = !man.asleep;
                    return 0;
                case 4:
                    if (man.sooted) {
                        return 1;
                    }
                    man.sooted = true;
                    return 0;
                case 5:
                    int nx = man.x + new int[] {1, 0, -1, 0}[object];
                    int ny = man.y + new int[] {0, 1, 0, -1}[object];
                    if (nx < 0 || ny < 0 || nx > 30 || ny > 30) {
                        return 1;
                    }
                    man.x = nx;
                    man.y = ny;
                    return 0;
                default:
                    if (hour + object > 400) {
                        return 1;
                    }
                    for (int i = 0; i < object; i++) {
                        anHour();
                    }
                    return 0;
            }
        }

        private int lift(int m, int lift) {
            if (men.get(m).thick() == 0) {
                return 1;
            }
            lifts++;
            for (int who = 0; who < men.size(); who++) {
                Man man = men.get(who);
                if (!reads(who, m) || man.joined && man.order >= 0) {
                    continue;
                }
                if (man.heard == 0) {
                    man.heard = lift;
                    continue;
                }
                int found = NONE;
                for (int o = 0; o < orders.size(); o++) {
                    if (orders.get(o).first() == man.heard && orders.get(o).second() == lift) {
                        found = o;
                    }
                }
                man.heard = 0;
                if (found >= 0) {
                    man.order = found;
                    man.pending = true;
                } else if (man.lost < 99) {
                    man.lost++;
                }
            }
            return 0;
        }

        boolean anHour() {
            if (hour == 400) {
                return false;
            }
            List<int[]> passing = new ArrayList<>();
            for (int m = 0; m < men.size(); m++) {
                if (men.get(m).pending) {
                    passing.add(new int[] {m, men.get(m).order});
                    men.get(m).pending = false;
                }
            }
            for (int[] each : passing) {
                act(1, each[0], each[1]);
            }
            hour++;
            if (hour % rain == 0) {
                men.forEach(man -> man.sooted = false);
            }
            return true;
        }

        int bits(IntFunction<Boolean> which) {
            int bits = 0;
            for (int m = 0; m < men.size(); m++) {
                if (which.apply(m)) {
                    bits += 1 << m;
                }
            }
            return bits;
        }

        int have(int o) {
            return bits(m -> men.get(m).order == o);
        }

        int draw(int n) {
            seed = seed * 1103515245 + 12345;
            return (seed >>> 8) % n;
        }

        int drawn(int n, int firstSeed) {
            seed = firstSeed;
            int gone = 0;
            for (; gone < n && hour < 400; gone++) {
                for (int m = 0; m < men.size(); m++) {
                    int drawn = draw(8);
                    if (drawn == 0) {
                        act(0, m, draw(3) + 1);
                    } else if (drawn == 1) {
                        act(men.get(m).asleep ? 3 : 2, m, 0);
                    } else if (drawn == 2) {
                        act(5, m, draw(4));
                    } else if (drawn == 3 && !orders.isEmpty()) {
                        int o = draw(orders.size());
                        if (men.get(m).under == NONE) {
                            act(1, m, o);
                        }
                    }
                }
                anHour();
            }
            return gone;
        }

        boolean under(int m, int other) {
            int up = men.get(m).under;
            return up != NONE && (up == other || under(up, other));
        }
    }

    // ---- texts

    private static final class Fault extends RuntimeException {
        private static final long serialVersionUID = 1L;
        final int kind;
        final int place;

        Fault(int kind, int place) {
            this.kind = kind;
            this.place = place;
        }
    }

    /** kind: w a told word, a a name, n a number, s a sign, x no token, e the end. */
    private record Token(char kind, String text, int place) { }

    private static final class Tokens {
        private static final Pattern RUNS = Pattern.compile("[a-z0-9]+|[^ \\n]", Pattern.DOTALL);
        private final List<Token> all = new ArrayList<>();
        private int at;

        Tokens(String text, int most) {
            Matcher runs = RUNS.matcher(text);
            while (runs.find() && runs.start() < most) {
                all.add(new Token(kindOf(runs.group()), runs.group(), runs.start()));
            }
            all.add(text.length() > most ? new Token('x', "", most) : new Token('e', "", text.length()));
        }

        private static char kindOf(String run) {
            if (run.matches("[a-z]{1,7}")) {
                return WORDS.contains(run) ? 'w' : 'a';
            }
            if (run.matches("[0-9]{1,3}")) {
                return 'n';
            }
            return run.matches("[;<=>()]") ? 's' : 'x';
        }

        Token peek() {
            return all.get(at);
        }

        boolean eat(String text) {
            if (peek().kind() != 'a' && peek().text().equals(text) && !text.isEmpty()) {
                at++;
                return true;
            }
            return false;
        }

        void need(String text) {
            if (!eat(text)) {
                throw fault(1);
            }
        }

        Fault fault(int kind) {
            return new Fault(kind, peek().place());
        }

        int number(int least, int most) {
            if (peek().kind() != 'n') {
                throw fault(1);
            }
            int value = Integer.parseInt(peek().text());
            if (value < least || value > most) {
                throw fault(2);
            }
            at++;
            return value;
        }

        int of(List<String> words) {
            int index = words.indexOf(peek().text());
            if (index < 0 || peek().kind() != 'w') {
                throw fault(1);
            }
            at++;
            return index;
        }

        /** A name that is told, not eaten. */
        int told(List<String> names) {
            if (peek().kind() != 'a') {
                throw fault(1);
            }
            if (!names.contains(peek().text())) {
                throw fault(3);
            }
            return names.indexOf(peek().text());
        }

        String fresh(World w) {
            if (peek().kind() != 'a') {
                throw fault(1);
            }
            if (manNames(w).contains(peek().text()) || orderNames(w).contains(peek().text())) {
                throw fault(3);
            }
            return all.get(at++).text();
        }
    }

    private static List<String> manNames(World w) {
        List<String> names = new ArrayList<>();
        w.men.forEach(man -> names.add(man.name));
        return names;
    }

    private static List<String> orderNames(World w) {
        List<String> names = new ArrayList<>();
        w.orders.forEach(order -> names.add(order.name()));
        return names;
    }

    private static int readArmy(Tokens t, World w) {
        int lines = 0;
        boolean clearTold = false;
        boolean rainTold = false;
        for (; t.peek().kind() != 'e'; lines++) {
            Token first = t.peek();
            if (t.eat("man")) {
                if (w.men.size() == 8) {
                    throw new Fault(4, first.place());
                }
                Man man = new Man();
                man.name = t.fresh(w);
                man.x = t.number(0, 30);
                man.y = t.number(0, 30);
                man.brow = t.number(0, 9);
                man.joined = t.eat("joined");
                man.grey = t.eat("grey");
                w.men.add(man);
            } else if (t.eat("under")) {
                int lower = t.told(manNames(w));
                if (w.men.get(lower).under != NONE) {
                    throw t.fault(3);
                }
                t.at++;
                int upper = t.told(manNames(w));
                if (upper == lower || w.under(upper, lower)) {
                    throw t.fault(3);
                }
                t.at++;
                w.men.get(lower).under = upper;
            } else if (t.eat("order")) {
                if (w.orders.size() == 7) {
                    throw new Fault(4, first.place());
                }
                String name = t.fresh(w);
                int one = t.of(LIFTS);
                Token second = t.peek();
                int two = t.of(LIFTS);
                for (Order order : w.orders) {
                    if (order.first() == one && order.second() == two) {
                        throw new Fault(3, second.place());
                    }
                }
                w.orders.add(new Order(name, one, two));
            } else if (t.eat("foe")) {
                if (w.foes.size() == 4) {
                    throw new Fault(4, first.place());
                }
                int x = t.number(0, 30);
                w.foes.add(new Cell(x, t.number(0, 30)));
            } else if (t.eat("clear")) {
                if (clearTold) {
                    throw new Fault(3, first.place());
                }
                clearTold = true;
                w.clear = t.number(1, 5);
            } else if (t.eat("rain")) {
                if (rainTold) {
                    throw new Fault(3, first.place());
                }
                rainTold = true;
                w.rain = t.number(1, 30);
            } else {
                throw t.fault(1);
            }
            t.need(";");
        }
        return lines;
    }

    private static List<int[]> readBook(Tokens t, World w) {
        List<int[]> lines = new ArrayList<>();
        while (t.peek().kind() != 'e') {
            int[] line = new int[3];
            Token first = t.peek();
            if (t.eat("hour")) {
                if (lines.size() == 40) {
                    throw new Fault(4, first.place());
                }
                line[0] = 6;
                line[2] = t.number(1, 60);
            } else {
                line[1] = t.told(manNames(w));
                if (lines.size() == 40) {
                    throw t.fault(4);
                }
                t.at++;
                line[0] = t.of(VERBS.subList(0, 6));
                if (line[0] == 0) {
                    line[2] = t.of(LIFTS);
                } else if (line[0] == 1) {
                    line[2] = t.told(orderNames(w));
                    t.at++;
                } else if (line[0] == 5) {
                    line[2] = t.of(SIDES);
                }
            }
            t.need(";");
            lines.add(line);
        }
        return lines;
    }

    /** Whether it may be said of man m in a world. */
    private interface Said {
        boolean of(World w, int m);
    }

    private static final class Parser {
        final Tokens t;
        final World army;
        int ones;

        Parser(Tokens t, World army) {
            this.t = t;
            this.army = army;
        }

        Said any(int depth) {
            Said left = every(depth);
            while (t.eat("or")) {
                Said a = left;
                Said b = every(depth);
                left = (w, m) -> a.of(w, m) || b.of(w, m);
            }
            return left;
        }

        private Said every(int depth) {
            Said left = one(depth);
            while (t.eat("and")) {
                Said a = left;
                Said b = one(depth);
                left = (w, m) -> a.of(w, m) && b.of(w, m);
            }
            return left;
        }

        private Said one(int depth) {
            Token first = t.peek();
            Set<String> beginnings = Set.of("not", "(", "asleep", "sooted", "joined", "grey", "idle", "under", "sees",
                "has", "brow", "heard", "lost", "number");
            if (!beginnings.contains(first.text())) {
                throw t.fault(1);
            }
            if (ones == 20 || depth == 9) {
                throw t.fault(4);
            }
            ones++;
            t.at++;
            switch (first.text()) {
                case "not":
                    Said inner = one(depth + 1);
                    return (w, m) -> !inner.of(w, m);
                case "(":
                    Said within = any(depth + 1);
                    t.need(")");
                    return within;
                case "asleep":
                    return (w, m) -> w.men.get(m).asleep;
                case "sooted":
                    return (w, m) -> w.men.get(m).sooted;
                case "joined":
                    return (w, m) -> w.men.get(m).joined;
                case "grey":
                    return (w, m) -> w.men.get(m).grey;
                case "idle":
                    return (w, m) -> w.men.get(m).order == NONE;
                case "under":
                case "sees":
                    int other = t.told(manNames(army));
                    t.at++;
                    return first.text().equals("sees") ? (w, m) -> w.sees(m, other)
                        : (w, m) -> w.men.get(m).under == other;
                case "has":
                    int o = t.told(orderNames(army));
                    t.at++;
                    return (w, m) -> w.men.get(m).order == o;
                default:
                    return measure(first.text());
            }
        }

        private Said measure(String what) {
            String sign = t.peek().text();
            if (!sign.matches("[<=>]")) {
                throw t.fault(1);
            }
            t.at++;
            int number = t.number(0, 999);
            return (w, m) -> {
                Man man = w.men.get(m);
                int value = what.equals("brow") ? man.thick() : what.equals("heard") ? man.heard
                    : what.equals("lost") ? man.lost : m;
                return sign.equals("<") ? value < number : sign.equals(">") ? value > number : value == number;
            };
        }
    }

    // ---- the object

    private final StringBuilder tape = new StringBuilder();
    private World world = new World();
    private Said said;
    private final List<World> past = new ArrayList<>();
    private final Object[][] images = new Object[2][];
    private int fault;
    private Cell cell;
    private int wrong = NONE;
    private int look = NONE;
    private int ask = NONE;
    private String report = "";
    private int[] told;

    private String takeTape() {
        String text = tape.toString();
        tape.setLength(0);
        return text;
    }

    private boolean man(int m) {
        return m >= 0 && m < world.men.size();
    }

    private boolean order(int o) {
        return o >= 0 && o < world.orders.size();
    }

    int feed(int... five) {
        if (tape.length() > 920) {
            return NONE;
        }
        for (int number : five) {
            for (int shift : new int[] {24, 16, 8, 0}) {
                tape.append((char) (number >> shift & 255));
            }
        }
        return tape.length();
    }

    int end(int n) {
        if (n < 0 || n > tape.length()) {
            return 0;
        }
        tape.setLength(n);
        return 1;
    }

    int army() {
        World fresh = new World();
        try {
            int lines = readArmy(new Tokens(takeTape(), 900), fresh);
            fault = 0;
            world = fresh;
            said = null;
            past.clear();
            return lines;
        } catch (Fault f) {
            fault = f.kind;
            return -1 - f.place;
        }
    }

    int fault() {
        return fault;
    }

    /** -77 where the class throws. */
    int man(int m, int what) {
        if (!man(m) || what < 0 || what > 9) {
            return -77;
        }
        Man man = world.men.get(m);
        return new int[] {man.x, man.y, man.thick(), man.asleep ? 1 : 0, man.sooted ? 1 : 0, man.heard, man.order,
            man.pending ? 1 : 0, man.lost, man.under}[what];
    }

    int order(int o, int what) {
        if (!order(o) || what < 0 || what > 2) {
            return NONE;
        }
        Order order = world.orders.get(o);
        return new int[] {order.first(), order.second(), world.have(o)}[what];
    }

    int now(int what) {
        World w = world;
        switch (what) {
            case 0: return w.hour;
            case 1: return w.bits(m -> w.men.get(m).asleep);
            case 2: return w.bits(m -> w.men.get(m).sooted);
            case 3: return w.bits(m -> w.men.get(m).order != NONE);
            case 4: return w.bits(m -> w.men.get(m).pending);
            case 5: return w.men.stream().mapToInt(man -> man.lost).sum();
            case 6: return w.lifts;
            default: return NONE;
        }
    }

    private void settle(World next) {
        past.add(world);
        if (past.size() > 8) {
            past.remove(0);
        }
        world = next;
    }

    int act(int verb, int m, int object) {
        boolean objectIs = verb == 0 ? object >= 1 && object <= 3 : verb == 1 ? order(object)
            : verb != 5 || object >= 0 && object <= 3;
        if (!man(m) || !objectIs) {
            return NONE;
        }
        World next = world.copy();
        int why = next.act(verb, m, object);
        if (why == 0) {
            settle(next);
        }
        return why;
    }

    int hours(int n) {
        if (n < 1 || n > 60) {
            return NONE;
        }
        World next = world.copy();
        int gone = 0;
        while (gone < n && next.anHour()) {
            gone++;
        }
        if (gone > 0) {
            settle(next);
        }
        return gone;
    }

    int undo() {
        if (past.isEmpty()) {
            return NONE;
        }
        world = past.remove(past.size() - 1);
        return past.size();
    }

    int sees(int m) {
        return man(m) ? world.bits(other -> world.sees(m, other)) : NONE;
    }

    int reads(int m) {
        return man(m) ? world.bits(other -> world.reads(other, m)) : NONE;
    }

    int foes(int m) {
        return man(m) ? foesAt(m, new Cell(world.men.get(m).x, world.men.get(m).y)) : NONE;
    }

    private int foesAt(int m, Cell at) {
        int bits = 0;
        for (int f = 0; f < world.foes.size(); f++) {
            Cell foe = world.foes.get(f);
            if (world.visible(m, at.far(foe.x(), foe.y()))) {
                bits |= 1 << f;
            }
        }
        return bits;
    }

    int reach(int m, int o) {
        if (!man(m) || !order(o)) {
            return NONE;
        }
        World next = world.copy();
        if (next.act(1, m, o) != 0) {
            return NONE;
        }
        for (int i = 0; i < 20; i++) {
            next.anHour();
        }
        return next.have(o);
    }

    int soon(int m, int o) {
        if (!man(m) || !order(o)) {
            return NONE;
        }
        World next = world.copy();
        if (next.act(1, m, o) != 0) {
            return NONE;
        }
        for (int gone = 0; gone <= 20; gone++) {
            boolean all = true;
            for (int other = 0; other < next.men.size(); other++) {
                all &= !next.under(other, m) || next.men.get(other).order == o;
            }
            if (all) {
                return gone;
            }
            if (!next.anHour()) {
                return NONE;
            }
        }
        return NONE;
    }

    int best(int o) {
        int best = NONE;
        for (int m = 0; m < world.men.size(); m++) {
            int reached = reach(m, o);
            if (reached >= 0 && (best < 0 || Integer.bitCount(reached) > Integer.bitCount(reach(best, o)))) {
                best = m;
            }
        }
        return best;
    }

    private List<Cell> cellsByNearness(int m) {
        List<Cell> cells = new ArrayList<>();
        for (int x = 0; x <= 30; x++) {
            for (int y = 0; y <= 30; y++) {
                cells.add(new Cell(x, y));
            }
        }
        Man man = world.men.get(m);
        cells.sort(Comparator.comparingInt((Cell c) -> c.far(man.x, man.y)).thenComparingInt(Cell::y)
            .thenComparingInt(Cell::x));
        return cells;
    }

    private int wouldSee(int m, Cell at) {
        int count = 0;
        for (Man man : world.men) {
            if (man.under == m && world.visible(m, at.far(man.x, man.y))) {
                count++;
            }
        }
        return count;
    }

    int stand(int m) {
        if (!man(m)) {
            return NONE;
        }
        Cell chosen = null;
        for (Cell each : cellsByNearness(m)) {
            if (chosen == null || wouldSee(m, each) > wouldSee(m, chosen)) {
                chosen = each;
            }
        }
        cell = chosen;
        return wouldSee(m, chosen);
    }

    int hide(int m) {
        if (!man(m)) {
            return NONE;
        }
        for (Cell each : cellsByNearness(m)) {
            if (foesAt(m, each) == 0 && wouldSee(m, each) > 0) {
                cell = each;
                return each.far(world.men.get(m).x, world.men.get(m).y);
            }
        }
        return NONE;
    }

    int cell(int what) {
        return cell == null ? NONE : what == 0 ? cell.x() : what == 1 ? cell.y() : NONE;
    }

    int meant() {
        String text = takeTape();
        if (!text.matches("([\\x00-\\x03]{2}){1,6}") || world.orders.isEmpty()) {
            return NONE;
        }
        int bits = 0;
        int fewest = 99;
        for (int o = 0; o < world.orders.size(); o++) {
            int count = 0;
            for (int i = 0; i < text.length(); i++) {
                int due = order(o, i % 2);
                count += text.charAt(i) == 0 || text.charAt(i) == due ? 0 : 1;
            }
            if (count < fewest) {
                bits = 0;
                fewest = count;
            }
            bits |= count == fewest ? 1 << o : 0;
        }
        wrong = fewest;
        int[] greatest = new int[2];
        for (int which = 0; which < 2; which++) {
            int[] left = new int[4];
            for (int o = 0; o < world.orders.size(); o++) {
                if ((bits >> o & 1) == 1) {
                    int lift = order(o, which);
                    left[lift]++;
                    greatest[which] = Math.max(greatest[which], left[lift]);
                }
            }
        }
        look = greatest[1] < greatest[0] ? 1 : 0;
        return bits;
    }

    int wrong() {
        return wrong;
    }

    int look() {
        return look;
    }

    int code() {
        int best = NONE;
        int most = 0;
        for (int one = 1; one <= 3; one++) {
            for (int two = 1; two <= 3; two++) {
                int a = one;
                int b = two;
                int fewest = world.orders.stream().mapToInt(o -> (o.first() != a ? 1 : 0) + (o.second() != b ? 1 : 0))
                    .min().orElse(2);
                if (fewest > most) {
                    most = fewest;
                    best = 4 * one + two;
                }
            }
        }
        return best;
    }

    int scratch() {
        String text = takeTape();
        if (!text.matches("(?s:.[\\x00\\x01]){1,8}")) {
            return NONE;
        }
        for (int i = 0; i < text.length(); i += 2) {
            if (!man(text.charAt(i))) {
                return NONE;
            }
        }
        int men = world.bits(m -> {
            for (int i = 0; i < text.length(); i += 2) {
                if (world.reads(text.charAt(i), m) != (text.charAt(i + 1) == 1)) {
                    return false;
                }
            }
            return true;
        });
        if (men > 0) {
            int least = 99;
            for (int m = 0; m < world.men.size(); m++) {
                int balance = 0;
                for (int other = 0; other < world.men.size(); other++) {
                    if ((men >> other & 1) == 1) {
                        balance += world.reads(m, other) ? 1 : -1;
                    }
                }
                if (Math.abs(balance) < least) {
                    least = Math.abs(balance);
                    ask = m;
                }
            }
        }
        return men;
    }

    int ask() {
        return ask;
    }

    int unrest() {
        return world.bits(m -> {
            Man man = world.men.get(m);
            return man.under != NONE && man.thick() > world.men.get(man.under).thick();
        });
    }

    int report(int m) {
        if (!man(m)) {
            return NONE;
        }
        Man man = world.men.get(m);
        report = man.name + (man.order == NONE ? " idle" : " has " + world.orders.get(man.order).name())
            + (man.heard == 0 ? "" : " heard " + LIFTS.get(man.heard)) + (man.asleep ? " asleep" : "");
        return report.length();
    }

    int byteAt(int i) {
        return i >= 0 && i < report.length() ? report.charAt(i) : NONE;
    }

    int drawn(int n, int seed) {
        if (n < 1 || n > 60) {
            return NONE;
        }
        World next = world.copy();
        int gone = next.drawn(n, seed);
        if (gone > 0) {
            settle(next);
        }
        return gone;
    }

    int odds(int m, int n, int seed) {
        if (!man(m) || n < 1 || n > 30) {
            return NONE;
        }
        int times = 0;
        for (int i = 0; i < n; i++) {
            World next = world.copy();
            next.drawn(20, seed + i);
            times += next.men.get(m).order == NONE ? 0 : 1;
        }
        return times;
    }

    int book(int lives) {
        if (lives < 0 || lives > 1) {
            return -1000;
        }
        List<int[]> lines;
        try {
            lines = readBook(new Tokens(takeTape(), 400), world);
            fault = 0;
        } catch (Fault f) {
            fault = f.kind;
            return -2 - f.place;
        }
        World next = world.copy();
        int good = 0;
        int why = 0;
        for (int[] line : lines) {
            if (next.act(line[0], line[1], line[2]) != 0) {
                why = 10 * line[0] + 1;
                break;
            }
            good++;
        }
        int have = 0;
        for (int m = 0; m < next.men.size(); m++) {
            have |= next.men.get(m).order == NONE ? 0 : 1 << m;
        }
        told = new int[] {why, good, next.hour, have};
        if (lives == 1 && good > 0) {
            settle(next);
        }
        return why == 0 ? NONE : good;
    }

    int told(int what) {
        return told == null || what < 0 || what > 3 ? NONE : told[what];
    }

    int sentence() {
        try {
            Tokens t = new Tokens(takeTape(), 200);
            Parser parser = new Parser(t, world);
            Said read = parser.any(1);
            if (t.peek().kind() != 'e') {
                throw t.fault(1);
            }
            fault = 0;
            said = read;
            return parser.ones;
        } catch (Fault f) {
            fault = f.kind;
            return -1 - f.place;
        }
    }

    int said(int k) {
        if (said == null || k < -1) {
            return NONE;
        }
        List<Integer> men = new ArrayList<>();
        for (int m = 0; m < world.men.size(); m++) {
            if (said.of(world, m)) {
                men.add(m);
            }
        }
        return k == NONE ? men.size() : k < men.size() ? men.get(k) : NONE;
    }

    int image(int k) {
        if (k != 0 && k != 1) {
            return 0;
        }
        images[k] = new Object[] {world.copy(), said};
        return 1;
    }

    int restore(int k) {
        if (k != 0 && k != 1 || images[k] == null) {
            return 0;
        }
        world = ((World) images[k][0]).copy();
        said = (Said) images[k][1];
        past.clear();
        return 1;
    }

    int count(int what) {
        int[] all = {world.men.size(), world.orders.size(), world.foes.size(), world.clear, world.rain, tape.length()};
        return what >= 0 && what < all.length ? all[what] : NONE;
    }
}

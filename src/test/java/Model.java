import java.math.BigInteger;
import java.nio.charset.StandardCharsets;
import java.util.ArrayList;
import java.util.Arrays;
import java.util.List;
import java.util.regex.Matcher;
import java.util.regex.Pattern;

/**
 * The document once more, in the plainest way and with the whole Java library:
 * what ShortcutDuty answers is compared with it on many random runs.
 */
final class Model {
    static final class Fault extends RuntimeException {
        final int code;
        final int place;

        Fault(int code, int place) {
            this.code = code;
            this.place = place;
        }
    }

    record Token(String text, int place) {
        boolean isNumber() {
            return !text.isEmpty() && Character.isDigit(text.charAt(0));
        }
    }

    record Edge(String kind, int a, int b, int length, int first, int last, int watched) {
        boolean between(int p, int q) {
            return Math.min(a, b) == Math.min(p, q) && Math.max(a, b) == Math.max(p, q);
        }
    }

    record Told(int walker, int load, int day, List<Integer> row) {
        int from() {
            return row.get(0);
        }

        int to() {
            return row.get(row.size() - 1);
        }
    }

    /** Never changed: another kingdom or law is another one of these. */
    record Land(int places, int days, int lines, List<Edge> roads, List<Edge> lanes, List<Integer> floods,
            List<Told> walks, List<Integer> laws) {
        static Land none() {
            return new Land(0, 0, 0, List.of(), List.of(), List.of(), List.of(), List.of(0, 0, 0, 1, 0));
        }

        Land withLaw(int what, int n) {
            List<Integer> changed = new ArrayList<>(laws);
            changed.set(what, n);
            return new Land(places, days, lines, roads, lanes, floods, walks, changed);
        }

        Land withLane(int a, int b, int n) {
            List<Edge> more = new ArrayList<>(lanes);
            more.add(new Edge("lane", a, b, n, 0, days - 1, 0));
            return new Land(places, days, lines, roads, more, floods, walks, laws);
        }

        Land withBend(int road, int n) {
            List<Edge> bent = new ArrayList<>(roads);
            Edge e = bent.get(road);
            bent.set(road, new Edge(e.kind, e.a, e.b, e.length + n, 0, 0, 0));
            return new Land(places, days, lines, bent, lanes, floods, walks, laws);
        }
    }

    private byte[] tape = new byte[0];
    private Land land = Land.none();
    private int faultCode = 0;
    private int faultPlace = -1;
    private final Land[] images = new Land[3];
    private final Object[] slots = new Object[4];

    // ---- the tape and the kingdom

    public int feed(int a, int b, int c, int d, int e) {
        if (tape.length + 20 > 2000) {
            return -1;
        }
        java.nio.ByteBuffer buffer = java.nio.ByteBuffer.allocate(tape.length + 20);
        buffer.put(tape).putInt(a).putInt(b).putInt(c).putInt(d).putInt(e);
        tape = buffer.array();
        return tape.length;
    }

    public int end(int n) {
        if (n < 0 || n > tape.length) {
            return -1;
        }
        tape = Arrays.copyOf(tape, n);
        return n;
    }

    public int kingdom() {
        byte[] bytes = tape;
        tape = new byte[0];
        faultCode = 0;
        faultPlace = -1;
        try {
            land = new Parse(bytes).land();
            return land.lines;
        } catch (Fault fault) {
            faultCode = fault.code;
            faultPlace = fault.place;
            return -4;
        }
    }

    public int fault(int what) {
        return what == 0 ? faultCode : what == 1 ? faultPlace : -1;
    }

    private static final class Parse {
        private static final Pattern TOKEN = Pattern.compile("[a-z]+|[0-9]+|;|[ \\n]+|.", Pattern.DOTALL);
        private final List<Token> tokens = new ArrayList<>();
        private int at = 0;
        private int places;
        private int days;
        private final List<Edge> roads = new ArrayList<>();
        private final List<Edge> lanes = new ArrayList<>();
        private final List<Integer> floods = new ArrayList<>();
        private final List<Told> walks = new ArrayList<>();
        private final List<Integer> laws = new ArrayList<>(List.of(0, 0, 0, 1, 0));

        Parse(byte[] bytes) {
            Matcher matcher = TOKEN.matcher(new String(bytes, StandardCharsets.ISO_8859_1));
            while (matcher.find()) {
                if (!matcher.group().matches("[ \\n]+")) {
                    tokens.add(new Token(matcher.group(), matcher.start()));
                }
            }
            tokens.add(new Token("", bytes.length));
        }

        Land land() {
            int lines = 0;
            while (!peek().text.isEmpty()) {
                line(lines == 0);
                word(";");
                lines++;
            }
            return new Land(places, days, lines, roads, lanes, floods, walks, laws);
        }

        private Token peek() {
            return tokens.get(at);
        }

        private void word(String text) {
            if (!peek().text.equals(text)) {
                throw new Fault(1, peek().place);
            }
            at++;
        }

        private int number(int least, int most) {
            Token token = peek();
            if (!token.isNumber()) {
                throw new Fault(1, token.place);
            }
            BigInteger n = new BigInteger(token.text);
            if (n.compareTo(BigInteger.valueOf(least)) < 0 || n.compareTo(BigInteger.valueOf(most)) > 0) {
                throw new Fault(2, token.place);
            }
            at++;
            return n.intValue();
        }

        private int place() {
            return number(0, places - 1);
        }

        private int day() {
            return number(0, days - 1);
        }

        private int placeUnlike(int other) {
            int where = peek().place;
            int place = place();
            if (place == other) {
                throw new Fault(2, where);
            }
            return place;
        }

        private void limit(int count, int most) {
            if (count == most) {
                throw new Fault(3, peek().place);
            }
        }

        private void line(boolean first) {
            if (first) {
                head();
                return;
            }
            switch (peek().text) {
                case "road", "lane", "ford", "boat" -> edge(peek().text);
                case "flood" -> {
                    at++;
                    word("on");
                    floods.add(day());
                }
                case "walk" -> walk();
                case "law" -> {
                    at++;
                    switch (peek().text) {
                        case "sunday" -> laws.set(3, 1);
                        case "free" -> laws.set(3, 0);
                        case "load" -> laws.set(4, 1);
                        case "light" -> laws.set(4, 0);
                        default -> throw new Fault(1, peek().place);
                    }
                    at++;
                }
                default -> throw new Fault(1, peek().place);
            }
        }

        private void head() {
            word("kingdom");
            word("places");
            places = number(2, 7);
            word("days");
            days = number(1, 30);
            word("rate");
            laws.set(0, number(0, 99));
            word("free");
            laws.set(1, number(0, 99));
            word("time");
            laws.set(2, number(0, 99));
        }

        private void edge(String kind) {
            boolean isRoad = kind.equals("road");
            limit(isRoad ? roads.size() : lanes.size(), isRoad ? 12 : 8);
            at++;
            int a = place();
            word("to");
            int where = peek().place;
            int b = placeUnlike(a);
            if (isRoad && roads.stream().anyMatch(r -> r.between(a, b))) {
                throw new Fault(2, where);
            }
            int length = number(1, 30);
            int first = 0;
            int last = 0;
            if (kind.equals("lane")) {
                word("from");
                first = day();
                word("to");
                last = number(first, days - 1);
            }
            int watched = 0;
            if ((kind.equals("lane") || kind.equals("ford")) && peek().text.equals("watched")) {
                at++;
                watched = number(0, 100);
            }
            (isRoad ? roads : lanes).add(new Edge(kind, a, b, length, first, last, watched));
        }

        private void walk() {
            limit(walks.size(), 10);
            at++;
            int walker = number(0, 4);
            word("load");
            int load = number(1, 9);
            word("on");
            int day = day();
            word("from");
            List<Integer> row = new ArrayList<>();
            row.add(place());
            word("by");
            do {
                int where = peek().place;
                row.add(placeUnlike(row.get(row.size() - 1)));
                if (row.size() == 8) {
                    throw new Fault(3, where);
                }
            } while (peek().isNumber());
            walks.add(new Told(walker, load, day, row));
        }
    }

    // ---- ways

    private static boolean none(int n, int size) {
        return n < 0 || n >= size;
    }

    private static boolean out(int n, int least, int most) {
        return n < least || n > most;
    }

    /** All rows of places without one twice, in their order. */
    private static List<List<Integer>> rows(int places, int from, int to) {
        List<List<Integer>> found = new ArrayList<>();
        grow(places, to, new ArrayList<>(List.of(from)), found);
        return found;
    }

    private static void grow(int places, int to, List<Integer> row, List<List<Integer>> found) {
        if (row.get(row.size() - 1) == to) {
            found.add(List.copyOf(row));
            return;
        }
        for (int p = 0; p < places; p++) {
            if (!row.contains(p)) {
                row.add(p);
                grow(places, to, row, found);
                row.remove(row.size() - 1);
            }
        }
    }

    private static boolean isOpen(Land in, int lane, int day) {
        Edge e = in.lanes.get(lane);
        return switch (e.kind) {
            case "lane" -> e.first <= day && day <= e.last;
            case "ford" -> !in.floods.contains(day);
            default -> true;
        };
    }

    /** What joins: a road, or 20 and a lane, or -1. */
    private static int join(Land in, int a, int b, int day) {
        int best = -1;
        int least = Integer.MAX_VALUE;
        for (int i = 0; i < in.roads.size(); i++) {
            if (in.roads.get(i).between(a, b) && in.roads.get(i).length < least) {
                best = i;
                least = in.roads.get(i).length;
            }
        }
        for (int i = 0; i < in.lanes.size(); i++) {
            if (in.lanes.get(i).between(a, b) && isOpen(in, i, day) && in.lanes.get(i).length < least) {
                best = 20 + i;
                least = in.lanes.get(i).length;
            }
        }
        return best;
    }

    private static List<Integer> byRoad(Land in, int from, int to) {
        Land bare = new Land(in.places, in.days, 0, in.roads, List.of(), List.of(), List.of(), in.laws);
        List<Integer> best = null;
        for (List<Integer> row : rows(in.places, from, to)) {
            if (lawful(bare, row, 0) && (best == null || length(bare, row, 0) < length(bare, best, 0))) {
                best = row;
            }
        }
        return best;
    }

    private static int lawfulSteps(Land in, List<Integer> row, int day) {
        int n = 0;
        while (n + 1 < row.size() && join(in, row.get(n), row.get(n + 1), day) >= 0) {
            n++;
        }
        return n;
    }

    private static boolean lawful(Land in, List<Integer> row, int day) {
        return lawfulSteps(in, row, day) == row.size() - 1;
    }

    private static List<Edge> edges(Land in, List<Integer> row, int day) {
        List<Edge> edges = new ArrayList<>();
        for (int i = 0; i + 1 < row.size(); i++) {
            int join = join(in, row.get(i), row.get(i + 1), day);
            edges.add(join >= 20 ? in.lanes.get(join - 20) : in.roads.get(join));
        }
        return edges;
    }

    private static int laneBits(Land in, List<Integer> row, int day) {
        int bits = 0;
        for (int i = 0; i + 1 < row.size(); i++) {
            int join = join(in, row.get(i), row.get(i + 1), day);
            bits |= join >= 20 ? 1 << (join - 20) : 0;
        }
        return bits;
    }

    private static int length(Land in, List<Integer> row, int day) {
        return edges(in, row, day).stream().mapToInt(Edge::length).sum();
    }

    private static int saved(Land in, List<Integer> row, int day) {
        List<Integer> road = byRoad(in, row.get(0), row.get(row.size() - 1));
        if (road == null) {
            return 0;
        }
        Land bare = new Land(in.places, in.days, 0, in.roads, List.of(), List.of(), List.of(), in.laws);
        return Math.max(0, length(bare, road, 0) - length(in, row, day));
    }

    private static int duty(Land in, List<Integer> row, int day, int load) {
        if (edges(in, row, day).stream().anyMatch(e -> e.kind.equals("boat"))) {
            return 0;
        }
        if (in.laws.get(3) == 0 && List.of(6, 13, 20, 27).contains(day)) {
            return 0;
        }
        int above = Math.max(0, saved(in, row, day) - in.laws.get(1));
        return above * in.laws.get(0) * (in.laws.get(4) == 1 ? load : 1);
    }

    private static int cost(Land in, List<Integer> row, int day, int load) {
        return in.laws.get(2) * length(in, row, day) + duty(in, row, day, load);
    }

    private static List<List<Integer>> ways(Land in, int from, int to, int day) {
        List<List<Integer>> ways = rows(in.places, from, to);
        ways.removeIf(row -> !lawful(in, row, day));
        return ways;
    }

    private static List<Integer> best(Land in, int from, int to, int day, int load) {
        List<Integer> best = null;
        for (List<Integer> row : ways(in, from, to, day)) {
            if (best == null) {
                best = row;
                continue;
            }
            int byCost = Integer.compare(cost(in, row, day, load), cost(in, best, day, load));
            int byLength = Integer.compare(length(in, row, day), length(in, best, day));
            if (byCost < 0 || (byCost == 0 && byLength < 0)) {
                best = row;
            }
        }
        return best;
    }

    // ---- promises 6 to 25

    private boolean noPlace(int p) {
        return none(p, land.places);
    }

    private boolean noJourney(int a, int b, int day) {
        return noPlace(a) || noPlace(b) || a == b || none(day, land.days);
    }

    private boolean noWalk(int walk) {
        return none(walk, land.walks.size());
    }

    private Told told(int walk) {
        return land.walks.get(walk);
    }

    private boolean isLawful(int walk) {
        return lawful(land, told(walk).row, told(walk).day);
    }

    private int dutyOf(Land in, int walk) {
        return duty(in, told(walk).row, told(walk).day, told(walk).load);
    }

    public int road(int from, int to) {
        if (noPlace(from) || noPlace(to)) {
            return -2;
        }
        List<Integer> row = byRoad(land, from, to);
        Land bare = new Land(land.places, land.days, 0, land.roads, List.of(), List.of(), List.of(), land.laws);
        return row == null ? -1 : length(bare, row, 0);
    }

    public int way(int from, int to, int i) {
        if (noPlace(from) || noPlace(to)) {
            return -2;
        }
        List<Integer> row = byRoad(land, from, to);
        return row == null || none(i, row.size()) ? -1 : row.get(i);
    }

    public int open(int lane, int day) {
        if (none(lane, land.lanes.size()) || none(day, land.days)) {
            return -2;
        }
        return isOpen(land, lane, day) ? 1 : 0;
    }

    public int joins(int a, int b, int day) {
        return noJourney(a, b, day) ? -2 : join(land, a, b, day);
    }

    public int walk(int walk, int what) {
        if (noWalk(walk) || out(what, 0, 5)) {
            return -2;
        }
        Told t = told(walk);
        return List.of(t.walker, t.load, t.day, t.from(), t.to(), t.row.size() - 1).get(what);
    }

    public int unlawful() {
        if (land.places == 0) {
            return -2;
        }
        for (int i = 0; i < land.walks.size(); i++) {
            if (!isLawful(i)) {
                return i;
            }
        }
        return -1;
    }

    public int steps(int walk) {
        return noWalk(walk) ? -2 : lawfulSteps(land, told(walk).row, told(walk).day);
    }

    public int length(int walk) {
        return noWalk(walk) ? -2 : !isLawful(walk) ? -1 : length(land, told(walk).row, told(walk).day);
    }

    public int saved(int walk) {
        return noWalk(walk) ? -2 : !isLawful(walk) ? -1 : saved(land, told(walk).row, told(walk).day);
    }

    public int duty(int walk) {
        return noWalk(walk) ? -2 : !isLawful(walk) ? -1 : dutyOf(land, walk);
    }

    public int lanes(int walk) {
        return noWalk(walk) ? -2 : !isLawful(walk) ? -1 : laneBits(land, told(walk).row, told(walk).day);
    }

    private int sum(Land in, int walker, int day) {
        int sum = 0;
        for (int i = 0; i < land.walks.size(); i++) {
            if (isLawful(i) && (walker < 0 || told(i).walker == walker) && (day < 0 || told(i).day == day)) {
                sum += dutyOf(in, i);
            }
        }
        return sum;
    }

    public int owes(int walker) {
        return land.places == 0 || out(walker, 0, 4) ? -2 : sum(land, walker, -1);
    }

    public int takings(int day) {
        return land.places == 0 || out(day, -1, land.days - 1) ? -2 : sum(land, -1, day);
    }

    private long share(int walk, int what, int times) {
        BigInteger unseen = BigInteger.ONE;
        BigInteger below = BigInteger.ONE;
        for (Edge e : edges(land, told(walk).row, told(walk).day)) {
            unseen = unseen.multiply(BigInteger.valueOf(100 - e.watched));
            below = below.multiply(BigInteger.valueOf(100));
        }
        BigInteger above = below.subtract(unseen).multiply(BigInteger.valueOf(times));
        BigInteger common = above.gcd(below);
        return (what == 0 ? above : below).divide(common).longValueExact();
    }

    public long chance(int walk, int what) {
        return noWalk(walk) || out(what, 0, 1) ? -2 : !isLawful(walk) ? -1 : share(walk, what, 1);
    }

    public long hope(int walk, int what) {
        return noWalk(walk) || out(what, 0, 1) ? -2 : !isLawful(walk) ? -1 : share(walk, what, dutyOf(land, walk));
    }

    public int shortest(int from, int to, int day) {
        if (noJourney(from, to, day)) {
            return -2;
        }
        return ways(land, from, to, day).stream().mapToInt(row -> length(land, row, day)).min().orElse(-1);
    }

    public int hidden(int from, int to, int day) {
        if (noJourney(from, to, day)) {
            return -2;
        }
        return ways(land, from, to, day).stream()
                .filter(row -> edges(land, row, day).stream().allMatch(e -> e.watched == 0))
                .mapToInt(row -> length(land, row, day)).min().orElse(-1);
    }

    public int best(int from, int to, int day, int load, int what) {
        if (noJourney(from, to, day) || out(load, 1, 9) || out(what, 0, 3)) {
            return -2;
        }
        List<Integer> row = best(land, from, to, day, load);
        if (row == null) {
            return -1;
        }
        return List.of(cost(land, row, day, load), length(land, row, day), duty(land, row, day, load), row.size())
                .get(what);
    }

    public int goes(int from, int to, int day, int load, int i) {
        if (noJourney(from, to, day) || out(load, 1, 9)) {
            return -2;
        }
        List<Integer> row = best(land, from, to, day, load);
        return row == null || none(i, row.size()) ? -1 : row.get(i);
    }

    public int ways(int from, int to, int day) {
        return noJourney(from, to, day) ? -2 : ways(land, from, to, day).size();
    }

    // ---- promises 26 to 40

    private static int all(Land in, int what) {
        int sum = 0;
        for (Told t : in.walks) {
            List<Integer> row = best(in, t.from(), t.to(), t.day, t.load);
            if (row == null) {
                sum += what == 3 ? 1 : 0;
            } else if (what < 3) {
                sum += List.of(duty(in, row, t.day, t.load), cost(in, row, t.day, t.load), length(in, row, t.day))
                        .get(what);
            }
        }
        return sum;
    }

    public int all(int what) {
        return land.places == 0 || out(what, 0, 3) ? -2 : all(land, what);
    }

    public int lane(int a, int b, int n, int what) {
        if (noPlace(a) || noPlace(b) || a == b || out(n, 1, 99) || out(what, 0, 3)) {
            return -2000000;
        }
        return all(land.withLane(a, b, n), what) - all(land, what);
    }

    public int help(int n) {
        if (land.places == 0 || out(n, 1, 99)) {
            return -2;
        }
        int answer = -1;
        int least = all(land, 1);
        for (int pair = 0; pair < 77; pair++) {
            int a = pair / 10;
            int b = pair % 10;
            if (a < b && b < land.places && all(land.withLane(a, b, n), 1) < least) {
                least = all(land.withLane(a, b, n), 1);
                answer = pair;
            }
        }
        return answer;
    }

    public int bend(int road, int n, int what) {
        if (none(road, land.roads.size()) || out(n, 1, 99) || out(what, 0, 3)) {
            return -2000000;
        }
        return all(land.withBend(road, n), what) - all(land, what);
    }

    public int duke(int n) {
        if (land.places == 0 || out(n, 1, 99)) {
            return -2;
        }
        int answer = -1;
        int most = all(land, 0);
        for (int road = 0; road < land.roads.size(); road++) {
            int duties = all(land.withBend(road, n), 0);
            if (duties > most) {
                most = duties;
                answer = road;
            }
        }
        return answer;
    }

    public int watchers(int what) {
        if (land.places == 0 || out(what, 0, 1)) {
            return -2;
        }
        for (int size = 1; size <= land.lanes.size() && sum(land, -1, -1) > 0; size++) {
            for (int set = 0; set < 1 << land.lanes.size(); set++) {
                boolean meets = Integer.bitCount(set) == size;
                for (int i = 0; i < land.walks.size(); i++) {
                    meets &= !isLawful(i) || dutyOf(land, i) == 0 || (lanes(i) & set) != 0;
                }
                if (meets) {
                    return what == 0 ? size : set;
                }
            }
        }
        return -1;
    }

    public int by(int rate, int free) {
        if (land.places == 0 || out(rate, 0, 99) || out(free, 0, 99)) {
            return -2;
        }
        return sum(land.withLaw(0, rate).withLaw(1, free), -1, -1);
    }

    public int rate(int n) {
        if (land.places == 0 || out(n, 1, 999999)) {
            return -2;
        }
        for (int rate = 0; rate <= 99; rate++) {
            if (sum(land.withLaw(0, rate), -1, -1) >= n) {
                return rate;
            }
        }
        return -1;
    }

    public int law(int what, int n) {
        if (land.places == 0 || out(what, 0, 4) || out(n, 0, what < 3 ? 99 : 1)) {
            return -2;
        }
        int was = land.laws.get(what);
        land = land.withLaw(what, n);
        return was;
    }

    private List<List<Integer>> owing(Land in, int walk, long duty) {
        Told t = told(walk);
        List<List<Integer>> owing = ways(in, t.from(), t.to(), t.day);
        owing.removeIf(row -> duty(in, row, t.day, t.load) != duty);
        return owing;
    }

    public int paid(int walk, int duty) {
        return noWalk(walk) || duty < 0 ? -2 : owing(land, walk, duty).size();
    }

    public int sure(int walk, int duty) {
        if (noWalk(walk) || duty < 0) {
            return -2;
        }
        return owing(land, walk, duty).stream().map(row -> laneBits(land, row, told(walk).day))
                .reduce((x, y) -> x & y).orElse(-1);
    }

    public int ford(int slot) {
        if (land.places == 0 || none(slot, 4)) {
            return -2;
        }
        if (slots[slot] == null) {
            return -6;
        }
        if (java.lang.reflect.Array.getLength(slots[slot]) != land.walks.size()) {
            return -7;
        }
        for (int i = 0; i < land.walks.size(); i++) {
            if (owing(land, i, java.lang.reflect.Array.getLong(slots[slot], i)).isEmpty()) {
                return i;
            }
        }
        return -1;
    }

    public int must(int a, int b, int walk, int duty) {
        if (noPlace(a) || noPlace(b) || a == b || noWalk(walk) || duty < 0) {
            return -2;
        }
        for (int n = 1; n <= 99; n++) {
            Land with = land.withLane(a, b, n);
            int bit = 1 << land.lanes.size();
            if (owing(with, walk, duty).stream().anyMatch(row -> (laneBits(with, row, told(walk).day) & bit) != 0)) {
                return n;
            }
        }
        return -1;
    }

    private boolean isSeen(long seed, int walk) {
        BigInteger x = BigInteger.valueOf(seed);
        boolean seen = false;
        for (Edge e : edges(land, told(walk).row, told(walk).day)) {
            if (e.watched > 0) {
                x = x.multiply(BigInteger.valueOf(1103515245)).add(BigInteger.valueOf(12345))
                        .mod(BigInteger.valueOf(2147483648L));
                seen |= x.longValueExact() / 65536 % 100 < e.watched;
            }
        }
        return seen;
    }

    public int seen(int seed, int walk) {
        if (noWalk(walk) || out(seed, 0, 2000000000)) {
            return -2;
        }
        return !isLawful(walk) ? -1 : isSeen(seed, walk) ? 1 : 0;
    }

    public int caught(int seed, int n) {
        if (land.places == 0 || out(seed, 0, 2000000000) || out(n, 1, 20)) {
            return -2;
        }
        int sum = 0;
        for (int i = 0; i < n; i++) {
            for (int walk = 0; walk < land.walks.size(); walk++) {
                sum += isLawful(walk) && isSeen((long) seed + i, walk) ? dutyOf(land, walk) : 0;
            }
        }
        return sum;
    }

    // ---- promises 41 to 46

    public int count(int what) {
        return switch (what) {
            case 0 -> land.places;
            case 1 -> land.days;
            case 2 -> land.roads.size();
            case 3 -> land.lanes.size();
            case 4 -> land.walks.size();
            case 5 -> (int) land.floods.stream().distinct().count();
            case 6 -> land.lines;
            case 7 -> tape.length;
            case 8 -> (int) Arrays.stream(slots).filter(slot -> slot != null).count();
            default -> -1;
        };
    }

    public int keep(int k) {
        if (none(k, 3)) {
            return -2;
        }
        images[k] = land;
        return 0;
    }

    public int back(int k) {
        if (none(k, 3)) {
            return -2;
        }
        if (images[k] == null) {
            return -6;
        }
        land = images[k];
        return 0;
    }

    public int row(int slot, int width, int n) {
        if (none(slot, 4) || out(width, 0, 3) || n > 60) {
            return -2;
        }
        if (n < 0) {
            return -3;
        }
        slots[slot] = width == 0 ? new byte[n] : width == 1 ? new short[n] : width == 2 ? new int[n] : new long[n];
        return 0;
    }

    public int write(int slot, int i, long v) {
        if (none(slot, 4)) {
            return -2;
        }
        Object row = slots[slot];
        if (row == null) {
            return -6;
        }
        if (none(i, java.lang.reflect.Array.getLength(row))) {
            return -7;
        }
        if (row instanceof byte[] bytes) {
            bytes[i] = (byte) v;
        } else if (row instanceof short[] shorts) {
            shorts[i] = (short) v;
        } else if (row instanceof int[] ints) {
            ints[i] = (int) v;
        } else if (row instanceof long[] longs) {
            longs[i] = v;
        }
        return 0;
    }

    @SuppressWarnings("SuspiciousSystemArraycopy")
    public int paste(int slot, int i, int to, int k, int n) {
        if (none(slot, 4) || none(to, 4)) {
            return -2;
        }
        if (slots[slot] == null || slots[to] == null) {
            return -6;
        }
        if (slots[slot].getClass() != slots[to].getClass()) {
            return -8;
        }
        try {
            System.arraycopy(slots[slot], i, slots[to], k, n);
        } catch (IndexOutOfBoundsException beyond) {
            return -7;
        }
        return 0;
    }
}

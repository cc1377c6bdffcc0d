import java.math.BigInteger;
import java.util.ArrayList;
import java.util.Arrays;
import java.util.List;

/**
 * The document once more, in another way than the program's: slices by owner, a tree for each law, all of the
 * state copied for each step and image, big fractions, and searches through everything. Not fast, but plain.
 */
final class Model {
    static final class Fault extends RuntimeException {
        final int number;
        final int place;

        Fault(int number, int place) {
            this.number = number;
            this.place = place;
        }
    }

    record Token(String word, int place) {
        boolean isNumber() {
            return Character.isDigit(word.charAt(0));
        }

        BigInteger number() {
            return new BigInteger(word);
        }
    }

    /** A part of a law: what it is, and the parts of it. */
    record Part(String what, List<Part> parts) {
        static Part of(String what, Part... parts) {
            return new Part(what, List.of(parts));
        }
    }

    record Clause(String what, int a, int b, Part law) {
    }

    record Text(List<Clause> clauses) {
        Part law(String what) {
            for (Clause clause : clauses) {
                if (clause.what.equals(what) && clause.law != null) {
                    return clause.law;
                }
            }
            return null;
        }
    }

    /** wants, from, to, told purse. */
    record Buyer(int wants, int from, int to, int told) {
        boolean wantsSlice(int slice) {
            return from <= slice && slice <= to;
        }

        boolean wantsSort(int sort) {
            return (wants & 1 << sort) != 0;
        }

        int size() {
            return to - from + 1;
        }
    }

    static final class Wall {
        int[] owner = new int[12];
        List<Integer> purses = new ArrayList<>();
        List<int[]> book = new ArrayList<>();
        int sort;
        int fund;
        int day;
        int x = 457;

        Wall() {
            Arrays.fill(owner, -1);
        }

        Wall copy() {
            Wall copy = new Wall();
            copy.owner = owner.clone();
            copy.purses = new ArrayList<>(purses);
            copy.book = new ArrayList<>(book);
            copy.sort = sort;
            copy.fund = fund;
            copy.day = day;
            copy.x = x;
            return copy;
        }

        int count(int whose) {
            return (int) Arrays.stream(owner).filter(o -> o == whose).count();
        }

        void write(int kind, int whom, int price) {
            book.add(new int[] {day, kind, whom, price});
            if (book.size() > 25) {
                book.remove(0);
            }
        }
    }

    static final class All {
        int[] odds = {1, 1, 1, 1, 1};
        int[] worth = {0, 10, 20, 30, 40};
        List<Buyer> buyers = new ArrayList<>();
        List<Text> texts = new ArrayList<>();
        int ruling = -1;
        int[] values = new int[12];
        int[] paid = {-1, -1, -1, -1, -1, -1};
        List<int[]> said = new ArrayList<>();
        Wall wall = new Wall();
        List<Wall> steps = new ArrayList<>();

        All copy() {
            All copy = new All();
            copy.odds = odds.clone();
            copy.worth = worth.clone();
            copy.buyers = new ArrayList<>(buyers);
            copy.texts = new ArrayList<>(texts);
            copy.ruling = ruling;
            copy.values = values.clone();
            copy.paid = paid.clone();
            copy.said = new ArrayList<>(said);
            copy.wall = wall.copy();
            copy.steps = new ArrayList<>(steps);
            return copy;
        }
    }

    private All now = new All();
    private All image = new All();
    private String tape = "";
    private int fault = -1;
    private int place = -1;

    // ---- reading ----

    private static final String SIGNS = "<=|>=|<|>|=|#|\\+|-|\\*|/|\\(|\\)|;";
    private static final List<String> NAMES = List.of("day", "buyer", "sort", "long", "own", "free", "wants", "has");

    private static List<Token> tokens(String tape) {
        List<Token> tokens = new ArrayList<>();
        var matcher = java.util.regex.Pattern.compile("[ \n]+|[a-zA-Z]+|[0-9]+|" + SIGNS + "|(?s:.)").matcher(tape);
        while (matcher.find()) {
            String word = matcher.group();
            if (!word.isBlank() || !word.chars().allMatch(c -> c == 32 || c == 10)) {
                tokens.add(new Token(word, matcher.start()));
            }
        }
        tokens.add(new Token("\0end of the tape", tape.length()));
        return tokens;
    }

    private static final class Parser {
        final List<Token> tokens;
        int at = 0;
        int open = 0;
        boolean bids;

        Parser(List<Token> tokens) {
            this.tokens = tokens;
        }

        Token peek() {
            return tokens.get(at);
        }

        boolean sees(String... words) {
            return Arrays.asList(words).contains(peek().word);
        }

        Fault fault(int number) {
            return new Fault(number, peek().place);
        }

        void expect(String word) {
            if (!sees(word)) {
                throw fault(1);
            }
            at++;
        }

        int number(int low, int high) {
            if (!peek().isNumber()) {
                throw fault(1);
            }
            BigInteger number = peek().number();
            if (number.compareTo(BigInteger.valueOf(low)) < 0 || number.compareTo(BigInteger.valueOf(high)) > 0) {
                throw fault(2);
            }
            at++;
            return number.intValue();
        }

        Text text() {
            List<Clause> clauses = new ArrayList<>();
            while (at < tokens.size() - 1) {
                if (!sees("bids", "earns", "buyer", "sort", "sell", "give", "turn", "day")) {
                    throw fault(1);
                }
                String what = peek().word;
                if (sees("bids", "earns") && clauses.stream().anyMatch(c -> c.what.equals(what))) {
                    throw fault(4);
                }
                if (clauses.size() == 24) {
                    throw fault(6);
                }
                at++;
                clauses.add(clause(what));
                expect(";");
            }
            return new Text(clauses);
        }

        Clause clause(String what) {
            switch (what) {
                case "bids", "earns" -> {
                    bids = what.equals("bids");
                    return new Clause(what, 0, 0, sum());
                }
                case "buyer" -> {
                    int from = number(0, 11);
                    expect("to");
                    return new Clause(what, from, number(from, 11), null);
                }
                case "sort" -> {
                    int sort = number(0, 4);
                    expect("by");
                    return new Clause(what, sort, number(0, 9), null);
                }
                case "give" -> {
                    return new Clause(what, number(0, 11), 0, null);
                }
                case "day" -> {
                    return new Clause(what, number(1, 60), 0, null);
                }
                default -> {
                    return new Clause(what, number(0, 5), 0, null);
                }
            }
        }

        Part sum() {
            Part left = product();
            while (sees("+", "-")) {
                String sign = peek().word;
                at++;
                left = Part.of(sign, left, product());
            }
            return left;
        }

        Part product() {
            Part left = one();
            while (sees("*", "/")) {
                String sign = peek().word;
                at++;
                left = Part.of(sign, left, one());
            }
            return left;
        }

        void enter() {
            if (open == 8) {
                throw fault(3);
            }
            open++;
            at++;
        }

        Part one() {
            String word = peek().word;
            if (peek().isNumber()) {
                return Part.of("" + number(0, 9999));
            }
            if (NAMES.contains(word)) {
                if (word.equals(bids ? "has" : "wants")) {
                    throw fault(5);
                }
                at++;
                return Part.of(word);
            }
            if (!sees("(", "-", "worth", "purse", "if")) {
                throw fault(1);
            }
            enter();
            Part part;
            switch (word) {
                case "(" -> {
                    part = sum();
                    expect(")");
                }
                case "-" -> part = Part.of("negative", one());
                case "if" -> {
                    Part either = either();
                    expect("then");
                    Part then = sum();
                    expect("else");
                    part = Part.of("if", either, then, sum());
                    expect("end");
                }
                default -> part = Part.of(word, one());
            }
            open--;
            return part;
        }

        Part either() {
            Part left = both();
            while (sees("or")) {
                at++;
                left = Part.of("or", left, both());
            }
            return left;
        }

        Part both() {
            Part left = asks();
            while (sees("and")) {
                at++;
                left = Part.of("and", left, asks());
            }
            return left;
        }

        Part asks() {
            if (sees("not")) {
                enter();
                Part part = Part.of("not", asks());
                open--;
                return part;
            }
            Part left = sum();
            if (!sees("<", "<=", ">", ">=", "=", "#")) {
                throw fault(1);
            }
            String sign = peek().word;
            at++;
            return Part.of(sign, left, sum());
        }
    }

    // ---- working a law out ----

    private long worked(Part part, Wall wall, int buyer, int sort) {
        List<Part> parts = part.parts;
        if (part.what.equals("if")) {
            return worked(parts.get(worked(parts.get(0), wall, buyer, sort) != 0 ? 1 : 2), wall, buyer, sort);
        }
        long a = parts.size() > 0 ? worked(parts.get(0), wall, buyer, sort) : 0;
        long b = parts.size() > 1 ? worked(parts.get(1), wall, buyer, sort) : 0;
        Buyer who = now.buyers.get(buyer);
        long result = switch (part.what) {
            case "+" -> a + b;
            case "-" -> a - b;
            case "*" -> a * b;
            case "/" -> b == 0 ? 0 : a / b;
            case "negative" -> -a;
            case "worth" -> a >= 0 && a < 5 ? now.worth[(int) a] : 0;
            case "purse" -> a >= 0 && a < now.buyers.size() ? wall.purses.get((int) a) : 0;
            case "<" -> a < b ? 1 : 0;
            case "<=" -> a <= b ? 1 : 0;
            case ">" -> a > b ? 1 : 0;
            case ">=" -> a >= b ? 1 : 0;
            case "=" -> a == b ? 1 : 0;
            case "#" -> a != b ? 1 : 0;
            case "not" -> a == 0 ? 1 : 0;
            case "and" -> a != 0 && b != 0 ? 1 : 0;
            case "or" -> a != 0 || b != 0 ? 1 : 0;
            case "day" -> wall.day;
            case "buyer" -> buyer;
            case "sort" -> sort;
            case "long" -> who.size();
            case "own" -> wall.purses.get(buyer);
            case "free" -> wall.count(-1);
            case "wants" -> who.wantsSort(sort) ? 1 : 0;
            case "has" -> wall.count(buyer);
            default -> Long.parseLong(part.what);
        };
        return Math.max(-1000000, Math.min(1000000, result));
    }

    private int bids(int text, int buyer, int sort) {
        Part law = text < 0 ? null : now.texts.get(text).law("bids");
        if (law == null) {
            return now.worth[sort] * now.buyers.get(buyer).size() / 12;
        }
        return (int) Math.max(0, Math.min(99, worked(law, now.wall, buyer, sort)));
    }

    private int bids(int buyer) {
        return bids(now.ruling, buyer, now.wall.sort);
    }

    private int earns(Wall wall, int buyer) {
        Part law = now.ruling < 0 ? null : now.texts.get(now.ruling).law("earns");
        return law == null ? 1 : (int) Math.max(-9, Math.min(9, worked(law, wall, buyer, wall.sort)));
    }

    // ---- doing ----

    private void step() {
        now.steps.add(now.wall.copy());
        if (now.steps.size() > 30) {
            now.steps.remove(0);
        }
    }

    private boolean isBuyer(int buyer) {
        return buyer >= 0 && buyer < now.buyers.size();
    }

    private static boolean isSlice(int slice) {
        return slice >= 0 && slice < 12;
    }

    private static boolean isSort(int sort) {
        return sort >= 0 && sort < 5;
    }

    private static boolean isRun(int from, int to) {
        return isSlice(from) && isSlice(to) && from <= to;
    }

    private boolean doSell(int buyer) {
        if (!can(buyer)) {
            return false;
        }
        int price = bids(buyer);
        for (int slice = now.buyers.get(buyer).from; slice <= now.buyers.get(buyer).to; slice++) {
            now.wall.owner[slice] = buyer;
        }
        now.wall.purses.set(buyer, now.wall.purses.get(buyer) - price);
        now.wall.fund = Math.min(99999, now.wall.fund + price);
        now.wall.write(0, buyer, price);
        return true;
    }

    private boolean doGive(int slice) {
        if (!isSlice(slice) || now.wall.owner[slice] != -1) {
            return false;
        }
        now.wall.owner[slice] = 6;
        now.wall.write(1, slice, 0);
        return true;
    }

    private boolean doTurn(int buyer) {
        if (!isBuyer(buyer) || now.wall.count(buyer) == 0) {
            return false;
        }
        for (int slice = 0; slice < 12; slice++) {
            if (now.wall.owner[slice] == buyer) {
                now.wall.owner[slice] = -1;
            }
        }
        now.wall.write(2, buyer, 0);
        return true;
    }

    private int draw(Wall wall) {
        int all = Arrays.stream(now.odds).sum();
        if (all == 0) {
            return 0;
        }
        List<Integer> lots = new ArrayList<>();
        for (int sort = 0; sort < 5; sort++) {
            for (int i = 0; i < now.odds[sort]; i++) {
                lots.add(sort);
            }
        }
        int drawn = wall.x % all;
        wall.x = anew(wall.x);
        return lots.get(drawn);
    }

    private static int anew(int x) {
        return (int) ((x * 719L + 587L) % 31039L);
    }

    private boolean doDay(Wall wall) {
        if (wall.day == 9999) {
            return false;
        }
        for (int buyer = 0; buyer < now.buyers.size(); buyer++) {
            wall.purses.set(buyer, Math.max(0, Math.min(999, wall.purses.get(buyer) + earns(wall, buyer))));
        }
        Arrays.fill(wall.owner, -1);
        wall.sort = draw(wall);
        wall.day++;
        wall.write(3, wall.sort, 0);
        return true;
    }

    // ---- the face ----

    boolean sort(int sort, int odds, int worth) {
        if (!isSort(sort) || odds < 0 || odds > 9 || worth < 0 || worth > 99) {
            return false;
        }
        now.odds[sort] = odds;
        now.worth[sort] = worth;
        return true;
    }

    int buyer(int wants, int from, int to, int purse) {
        if (wants < 0 || wants > 31 || !isRun(from, to) || purse < 0 || purse > 999 || now.buyers.size() == 6) {
            return -1;
        }
        now.buyers.add(new Buyer(wants, from, to, purse));
        now.wall.purses.add(purse);
        return now.buyers.size() - 1;
    }

    int feed(int a, int b, int c, int d, int e) {
        if (tape.length() > 280) {
            return -1;
        }
        StringBuilder more = new StringBuilder(tape);
        for (int four : new int[] {a, b, c, d, e}) {
            for (byte one : java.nio.ByteBuffer.allocate(4).putInt(four).array()) {
                more.append((char) (one & 0xff));
            }
        }
        tape = more.toString();
        return tape.length();
    }

    int end(int n) {
        if (n < 0 || n > tape.length()) {
            return -1;
        }
        tape = tape.substring(0, n);
        return n;
    }

    int text() {
        if (now.texts.size() == 4) {
            return -1;
        }
        String read = tape;
        tape = "";
        try {
            now.texts.add(new Parser(tokens(read)).text());
            fault = 0;
            place = -1;
            return now.texts.size() - 1;
        } catch (Fault wrong) {
            fault = wrong.number;
            place = wrong.place;
            return -1;
        }
    }

    int fault(int what) {
        return what == 0 ? fault : what == 1 ? place : -1;
    }

    boolean by(int text) {
        if (text < -1 || text >= now.texts.size()) {
            return false;
        }
        now.ruling = text;
        return true;
    }

    int sell(int buyer) {
        if (!can(buyer)) {
            return -1;
        }
        int price = bids(buyer);
        step();
        doSell(buyer);
        return price;
    }

    boolean give(int slice) {
        if (at(slice) != -1) {
            return false;
        }
        step();
        return doGive(slice);
    }

    boolean turn(int buyer) {
        if (!isBuyer(buyer) || now.wall.count(buyer) == 0) {
            return false;
        }
        step();
        return doTurn(buyer);
    }

    int pass(int from, int to) {
        if (!isBuyer(from) || !isBuyer(to) || from == to) {
            return -1;
        }
        Buyer other = now.buyers.get(to);
        int many = 0;
        for (int slice = 0; slice < 12; slice++) {
            if (now.wall.owner[slice] == to) {
                return -1;
            }
            if (now.wall.owner[slice] == from) {
                many++;
                if (!other.wantsSlice(slice)) {
                    return -1;
                }
            }
        }
        int price = (bids(from) + bids(to)) / 2;
        if (many == 0 || !other.wantsSort(now.wall.sort) || bids(to) <= bids(from) || now.wall.purses.get(to) < price) {
            return -1;
        }
        step();
        for (int slice = 0; slice < 12; slice++) {
            if (now.wall.owner[slice] == from) {
                now.wall.owner[slice] = to;
            }
        }
        now.wall.purses.set(to, now.wall.purses.get(to) - price);
        now.wall.purses.set(from, Math.min(999, now.wall.purses.get(from) + price));
        now.wall.write(4, to, price);
        return price;
    }

    private boolean dayStep() {
        if (now.wall.day == 9999) {
            return false;
        }
        step();
        return doDay(now.wall);
    }

    int day(int n) {
        if (n < 1 || n > 60 || now.wall.day + n > 9999) {
            return -1;
        }
        for (int i = 0; i < n; i++) {
            dayStep();
        }
        return now.wall.sort;
    }

    int played(int text) {
        if (text < 0 || text >= now.texts.size()) {
            return -2;
        }
        List<Clause> clauses = now.texts.get(text).clauses;
        for (int i = 0; i < clauses.size(); i++) {
            Clause clause = clauses.get(i);
            boolean done = true;
            switch (clause.what) {
                case "buyer" -> done = buyer(31, clause.a, clause.b, 50) != -1;
                case "sort" -> now.odds[clause.a] = clause.b;
                case "sell" -> done = sell(clause.a) != -1;
                case "give" -> done = give(clause.a);
                case "turn" -> done = turn(clause.a);
                case "day" -> {
                    for (int day = 0; day < clause.a; day++) {
                        done &= dayStep();
                    }
                }
                default -> { }
            }
            if (!done) {
                return i;
            }
        }
        return -1;
    }

    int years(int seed, int n) {
        if (seed < 0 || seed > 9999 || n < 1 || n > 40) {
            return -1;
        }
        step();
        now.wall.x = seed * 2 + 457;
        for (int i = 0; i < n; i++) {
            int x = now.wall.x;
            now.wall.x = anew(x);
            int kind = x % 6;
            if (kind < 2) {
                doSell(x / 6 % 6);
            } else if (kind == 2 && x / 6 % 3 == 1) {
                doGive(x % 12);
            } else if (kind == 3 && x % 4 == 3) {
                doTurn(x / 6 % 6);
            } else if (kind > 3) {
                doDay(now.wall);
            }
        }
        return now.wall.day;
    }

    int undo() {
        if (now.steps.isEmpty()) {
            return -1;
        }
        now.wall = now.steps.remove(now.steps.size() - 1).copy();
        for (int buyer = now.wall.purses.size(); buyer < now.buyers.size(); buyer++) {
            now.wall.purses.add(now.buyers.get(buyer).told);
        }
        return now.steps.size();
    }

    int of(int buyer, int what) {
        if (!isBuyer(buyer)) {
            return -10;
        }
        Buyer who = now.buyers.get(buyer);
        return switch (what) {
            case 0 -> who.wants;
            case 1 -> who.from;
            case 2 -> who.to;
            case 3 -> now.wall.purses.get(buyer);
            case 4 -> bids(buyer);
            case 5 -> earns(now.wall, buyer);
            case 6 -> now.wall.count(buyer);
            default -> -10;
        };
    }

    int ofSort(int sort, int what) {
        if (!isSort(sort) || what < 0 || what > 1) {
            return -1;
        }
        return what == 0 ? now.odds[sort] : now.worth[sort];
    }

    int at(int slice) {
        return isSlice(slice) ? now.wall.owner[slice] : -2;
    }

    int is(int what) {
        return switch (what) {
            case 0 -> now.wall.day;
            case 1 -> now.wall.x;
            case 2 -> now.wall.fund;
            case 3 -> now.wall.sort;
            case 4 -> bits(i -> now.wall.owner[i] == -1, 12);
            default -> -2;
        };
    }

    private static int bits(java.util.function.IntPredicate is, int many) {
        int bits = 0;
        for (int i = 0; i < many; i++) {
            bits += is.test(i) ? 1 << i : 0;
        }
        return bits;
    }

    private int bitsOfBuyers(java.util.function.IntPredicate is) {
        return bits(is, now.buyers.size());
    }

    int book(int i, int what) {
        if (i == -1) {
            return now.wall.book.size();
        }
        if (i < 0 || i >= now.wall.book.size() || what < 0 || what > 3) {
            return -2;
        }
        return now.wall.book.get(i)[what];
    }

    int foretold(int n, int what) {
        if (n < 1 || n > 60 || what < 0 || what > 1) {
            return -1;
        }
        Wall ahead = now.wall.copy();
        for (int i = 0; i < n; i++) {
            doDay(ahead);
        }
        return what == 0 ? ahead.sort : ahead.purses.stream().mapToInt(p -> p).sum();
    }

    /** The best set and what it brings, by trying to take each buyer or not; null: no way. */
    private int[] packed(int must, int sort) {
        int[] best = null;
        for (int set = 0; set < 1 << now.buyers.size(); set++) {
            int together = 0;
            boolean fits = (set | must) == set;
            for (int slice = 0; slice < 12; slice++) {
                int wanting = 0;
                for (int buyer = 0; buyer < now.buyers.size(); buyer++) {
                    wanting += (set & 1 << buyer) != 0 && now.buyers.get(buyer).wantsSlice(slice) ? 1 : 0;
                }
                fits &= wanting <= 1;
            }
            for (int buyer = 0; buyer < now.buyers.size(); buyer++) {
                if ((set & 1 << buyer) != 0) {
                    fits &= now.buyers.get(buyer).wantsSort(sort);
                    together += bids(now.ruling, buyer, sort);
                }
            }
            if (fits && (best == null || together > best[1])) {
                best = new int[] {set, together};
            }
        }
        return best;
    }

    int pack(int sort, boolean many) {
        if (!isSort(sort)) {
            return -1;
        }
        return packed(0, sort)[many ? 0 : 1];
    }

    int see(int must, int sort) {
        if (!isSort(sort) || must < 0 || must >= 1 << now.buyers.size()) {
            return -1;
        }
        int[] packed = packed(must, sort);
        return packed == null ? -1 : packed[1];
    }

    private static final class Fraction {
        final BigInteger up;
        final BigInteger down;

        Fraction(BigInteger up, BigInteger down) {
            BigInteger common = up.gcd(down);
            this.up = up.divide(common);
            this.down = down.divide(common);
        }

        static Fraction of(long up, long down) {
            return new Fraction(BigInteger.valueOf(up), BigInteger.valueOf(down));
        }

        Fraction plus(Fraction other) {
            return new Fraction(up.multiply(other.down).add(other.up.multiply(down)), down.multiply(other.down));
        }

        Fraction times(Fraction other) {
            return new Fraction(up.multiply(other.up), down.multiply(other.down));
        }

        int compare(Fraction other) {
            return up.multiply(other.down).compareTo(other.up.multiply(down));
        }

        long part(boolean low) {
            return (low ? down : up).longValueExact();
        }
    }

    private int[] weights() {
        return Arrays.stream(now.odds).sum() == 0 ? new int[] {1, 0, 0, 0, 0} : now.odds;
    }

    private Fraction likely(int sort) {
        return Fraction.of(weights()[sort], Arrays.stream(weights()).sum());
    }

    private Fraction hoped(int n) {
        Fraction hope = Fraction.of(0, 1);
        for (int i = 0; i < n; i++) {
            Fraction sum = Fraction.of(0, 1);
            for (int sort = 0; sort < 5; sort++) {
                Fraction worth = Fraction.of(now.worth[sort], 1);
                sum = sum.plus(likely(sort).times(i == 0 || worth.compare(hope) >= 0 ? worth : hope));
            }
            hope = sum;
        }
        return hope;
    }

    long hope(int n, boolean low) {
        return n < 0 || n > 6 ? -1 : hoped(n).part(low);
    }

    boolean keep(int n) {
        return n >= 0 && n <= 6 && hoped(n).compare(Fraction.of(now.worth[now.wall.sort], 1)) > 0;
    }

    long chance(int sort, boolean low) {
        return isSort(sort) ? likely(sort).part(low) : -1;
    }

    int first(int sort) {
        if (!isSort(sort)) {
            return -1;
        }
        Fraction come = Fraction.of(0, 1);
        Fraction not = Fraction.of(1, 1);
        for (int days = 1; days <= 10; days++) {
            come = come.plus(not.times(likely(sort)));
            not = Fraction.of(1, 1).plus(come.times(Fraction.of(-1, 1)));
            if (come.compare(Fraction.of(1, 2)) >= 0) {
                return days;
            }
        }
        return -1;
    }

    int paid(int buyer, boolean did) {
        if (buyer == -1) {
            Arrays.fill(now.paid, -1);
            return 0;
        }
        if (!isBuyer(buyer) || now.paid[buyer] != -1) {
            return -2;
        }
        now.paid[buyer] = did ? 1 : 0;
        return told();
    }

    private int told() {
        return (int) Arrays.stream(now.paid).filter(p -> p != -1).count();
    }

    private boolean fits(int sort) {
        boolean fits = weights()[sort] > 0;
        for (int buyer = 0; buyer < now.buyers.size(); buyer++) {
            if (now.paid[buyer] != -1) {
                fits &= now.buyers.get(buyer).wantsSort(sort) == (now.paid[buyer] == 1);
            }
        }
        return fits;
    }

    int was() {
        return bits(this::fits, 5);
    }

    int likeliest() {
        for (int odds = 9; odds > 0; odds--) {
            for (int sort = 0; sort < 5; sort++) {
                if (fits(sort) && weights()[sort] == odds) {
                    return sort;
                }
            }
        }
        return -1;
    }

    long surest(boolean low) {
        int sort = likeliest();
        if (sort == -1) {
            return low ? 1 : 0;
        }
        int all = 0;
        for (int other = 0; other < 5; other++) {
            all += fits(other) ? weights()[other] : 0;
        }
        return Fraction.of(weights()[sort], all).part(low);
    }

    int ask() {
        int many = 0;
        for (int sort = 0; sort < 5; sort++) {
            many += fits(sort) ? 1 : 0;
        }
        if (many < 2) {
            return -1;
        }
        int best = -1;
        int least = 1000;
        for (int buyer = 0; buyer < now.buyers.size(); buyer++) {
            int[] halves = new int[2];
            for (int sort = 0; sort < 5; sort++) {
                if (fits(sort)) {
                    halves[now.buyers.get(buyer).wantsSort(sort) ? 1 : 0] += weights()[sort];
                }
            }
            if (now.paid[buyer] == -1 && Math.max(halves[0], halves[1]) < least) {
                least = Math.max(halves[0], halves[1]);
                best = buyer;
            }
        }
        return best;
    }

    int auction(int slice, int what) {
        if (!isSlice(slice) || what < 0 || what > 2) {
            return -1;
        }
        List<int[]> bidders = new ArrayList<>();
        for (int buyer = 0; buyer < now.buyers.size(); buyer++) {
            Buyer who = now.buyers.get(buyer);
            if (who.wantsSort(now.wall.sort) && who.wantsSlice(slice)) {
                bidders.add(new int[] {buyer, bids(buyer) / who.size()});
            }
        }
        bidders.sort((a, b) -> b[1] - a[1]);
        if (bidders.isEmpty()) {
            return -1;
        }
        return switch (what) {
            case 0 -> bidders.get(0)[0];
            case 1 -> bidders.size() == 1 ? 0 : bidders.get(1)[1];
            default -> bidders.size();
        };
    }

    int stab(boolean many) {
        int best = -1;
        for (int set = 0; set < 4096; set++) {
            boolean all = true;
            for (Buyer buyer : now.buyers) {
                int slices = bits(buyer::wantsSlice, 12);
                all &= (slices & set) != 0;
            }
            if (all && (best == -1 || Integer.bitCount(set) < Integer.bitCount(best))) {
                best = set;
            }
        }
        return many ? Integer.bitCount(best) : best;
    }

    int crowd(boolean slice) {
        int best = 0;
        long[] many = new long[12];
        for (int i = 0; i < 12; i++) {
            int here = i;
            many[i] = now.buyers.stream().filter(b -> b.wantsSlice(here)).count();
            best = many[i] > many[best] ? i : best;
        }
        return slice ? best : (int) many[best];
    }

    int dawns(int buyer) {
        if (!isBuyer(buyer)) {
            return -1;
        }
        List<Integer> order = new ArrayList<>();
        for (int i = 0; i < now.buyers.size(); i++) {
            order.add(i);
        }
        order.sort((a, b) -> now.buyers.get(a).from - now.buyers.get(b).from);
        int[] dawns = new int[6];
        for (int i = 0; i < order.size(); i++) {
            Buyer who = now.buyers.get(order.get(i));
            for (int dawn = 0; ; dawn++) {
                boolean free = true;
                for (int j = 0; j < i; j++) {
                    Buyer other = now.buyers.get(order.get(j));
                    free &= dawns[order.get(j)] != dawn || other.to < who.from || who.to < other.from;
                }
                if (free) {
                    dawns[order.get(i)] = dawn;
                    break;
                }
            }
        }
        return dawns[buyer];
    }

    long month(int n, boolean low) {
        if (n < 1 || n > 60) {
            return -1;
        }
        Fraction all = Fraction.of(0, 1);
        for (int sort = 0; sort < 5; sort++) {
            all = all.plus(likely(sort).times(Fraction.of(packed(0, sort)[1], 1)));
        }
        return all.times(Fraction.of(n, 1)).part(low);
    }

    boolean value(int slice, int value) {
        if (!isSlice(slice) || value < 0 || value > 99) {
            return false;
        }
        now.values[slice] = value;
        return true;
    }

    private int more(int from, int to) {
        if (from > to) {
            return 0;
        }
        return Math.max(now.values[from] - more(from + 1, to), now.values[to] - more(from, to - 1));
    }

    int ends(int from, int to) {
        return isRun(from, to) ? more(from, to) : -1000;
    }

    int take(int from, int to) {
        if (!isRun(from, to)) {
            return -1;
        }
        return now.values[from] - more(from + 1, to) == more(from, to) ? 0 : 1;
    }

    int best(int from, int to, int what) {
        if (!isRun(from, to) || what < 0 || what > 2) {
            return -1000;
        }
        int[] best = null;
        for (int first = from; first <= to; first++) {
            for (int last = first; last <= to; last++) {
                int sum = Arrays.stream(now.values, first, last + 1).map(v -> v - 50).sum();
                if (best == null || sum > best[0]) {
                    best = new int[] {sum, first, last};
                }
            }
        }
        return best[what];
    }

    int said(int buyer, int bids) {
        if (buyer == -1) {
            now.said.clear();
            return 0;
        }
        if (!isBuyer(buyer) || bids < 0 || bids > 99 || now.said.size() == 8) {
            return -2;
        }
        now.said.add(new int[] {buyer, bids});
        return now.said.size();
    }

    int whose() {
        return bits(t -> now.said.stream().allMatch(s -> bids(t, s[0], now.wall.sort) == s[1]), now.texts.size());
    }

    int richest() {
        int most = now.wall.purses.stream().mapToInt(p -> p).max().orElse(0);
        return most == 0 ? -1 : now.wall.purses.indexOf(most);
    }

    int rival(int buyer) {
        if (!isBuyer(buyer)) {
            return -1;
        }
        Buyer who = now.buyers.get(buyer);
        return bitsOfBuyers(o -> {
            Buyer other = now.buyers.get(o);
            boolean sort = false;
            boolean slice = false;
            for (int i = 0; i < 12; i++) {
                sort |= i < 5 && other.wantsSort(i) && who.wantsSort(i);
                slice |= other.wantsSlice(i) && who.wantsSlice(i);
            }
            return o != buyer && sort && slice;
        });
    }

    long learnt(int sort, boolean low) {
        if (!isSort(sort)) {
            return -1;
        }
        long of = now.wall.book.stream().filter(l -> l[1] == 3 && l[2] == sort).count();
        return Fraction.of(of + 1, ledger(3) + 5).part(low);
    }

    int wanted(int sort) {
        return isSort(sort) ? (int) now.buyers.stream().filter(b -> b.wantsSort(sort)).count() : -1;
    }

    int alone(int buyer) {
        if (!isBuyer(buyer)) {
            return -1;
        }
        Buyer who = now.buyers.get(buyer);
        return bits(i -> who.wantsSlice(i) && now.buyers.stream().filter(b -> b.wantsSlice(i)).count() == 1, 12);
    }

    int since(int sort) {
        int latest = -1;
        for (int[] line : now.wall.book) {
            latest = isSort(sort) && line[1] == 3 && line[2] == sort ? line[0] : latest;
        }
        return latest == -1 ? -1 : now.wall.day - latest;
    }

    int idle() {
        return bits(i -> now.wall.owner[i] == -1
            && now.buyers.stream().noneMatch(b -> b.wantsSort(now.wall.sort) && b.wantsSlice(i)), 12);
    }

    int poor() {
        return bitsOfBuyers(b -> now.wall.purses.get(b) < bids(b));
    }

    int room(int slices) {
        int run = 0;
        for (int i = 0; i < 12; i++) {
            run = now.wall.owner[i] == -1 ? run + 1 : 0;
            if (slices >= 1 && run == slices) {
                return i - slices + 1;
            }
        }
        return -1;
    }

    boolean can(int buyer) {
        if (!isBuyer(buyer)) {
            return false;
        }
        Buyer who = now.buyers.get(buyer);
        boolean free = true;
        for (int slice = who.from; slice <= who.to; slice++) {
            free &= now.wall.owner[slice] == -1;
        }
        return free && who.wantsSort(now.wall.sort) && now.wall.purses.get(buyer) >= bids(buyer);
    }

    int ledger(int what) {
        return what < 0 || what > 4 ? -2 : (int) now.wall.book.stream().filter(l -> l[1] == what).count();
    }

    int image() {
        image = now.copy();
        return now.wall.day;
    }

    int back() {
        now = image.copy();
        return now.wall.day;
    }

    int about(int what) {
        return switch (what) {
            case 0 -> now.buyers.size();
            case 1 -> now.texts.size();
            case 2 -> now.ruling;
            case 3 -> now.steps.size();
            case 4 -> told();
            case 5 -> now.said.size();
            case 6 -> tape.length();
            default -> -2;
        };
    }
}

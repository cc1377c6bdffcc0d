import java.lang.reflect.InvocationTargetException;
import java.lang.reflect.Method;
import java.util.ArrayList;
import java.util.List;
import java.util.Map;
import java.util.Random;
import java.util.TreeMap;

/** Long runs of random calls: what the program answers against what the model answers. */
public final class ModelTest {
    private static final int RUNS = 1500;
    private static final int CALLS = 512;
    private static final int[] EDGES = {Integer.MIN_VALUE, -1001, -3, -2, -1, 0, 1, 2, 3, 4, 5, 6, 7, 8, 9, 10, 11, 12, 13,
        24, 25, 29, 30, 31, 32, 33, 39, 40, 41, 59, 60, 61, 62, 63, 64, 98, 99, 100, 280, 300, 301, 998, 999, 1000, 9998,
        9999, 10000, 65536, Integer.MAX_VALUE};

    private final Random random;
    private final DawnPerquisite program = new DawnPerquisite();
    private final Model model = new Model();
    private final List<String> calls = new ArrayList<>();
    private final Map<String, Integer> many;
    private int made = 0;
    private boolean wrong = false;

    private ModelTest(long seed, Map<String, Integer> many) {
        random = new Random(seed);
        this.many = many;
    }

    private static final Map<String, Method[]> METHODS = methods();

    private static Map<String, Method[]> methods() {
        Map<String, Method[]> methods = new TreeMap<>();
        for (Method method : DawnPerquisite.class.getDeclaredMethods()) {
            if (java.lang.reflect.Modifier.isPublic(method.getModifiers())) {
                try {
                    Method other = Model.class.getDeclaredMethod(method.getName(), method.getParameterTypes());
                    methods.put(method.getName(), new Method[] {method, other});
                } catch (NoSuchMethodException e) {
                    throw new IllegalStateException("the model lacks " + method, e);
                }
            }
        }
        return methods;
    }

    private static long number(Object answer) {
        return answer instanceof Boolean is ? (is ? 1 : 0) : ((Number) answer).longValue();
    }

    private long call(String name, Object... arguments) {
        Method[] both = METHODS.get(name);
        if (made == CALLS) {
            // what later calls answer is free
            return 0;
        }
        made++;
        try {
            long got = number(both[0].invoke(program, arguments));
            long want = number(both[1].invoke(model, arguments));
            String told = name + java.util.Arrays.toString(arguments);
            calls.add(told + " = " + want);
            Check.due(told, got, want);
            many.merge(name + (want < 0 ? " none" : ""), 1, Integer::sum);
            wrong |= got != want;
            return want;
        } catch (IllegalAccessException | InvocationTargetException e) {
            calls.add(name + java.util.Arrays.toString(arguments));
            calls.forEach(System.out::println);
            throw new IllegalStateException(e);
        }
    }

    private int upTo(int most) {
        return random.nextInt(most + 1);
    }

    private int any(int low, int high) {
        return random.nextInt(12) == 0 ? EDGES[random.nextInt(EDGES.length)] : low + upTo(high - low);
    }

    // ---- texts ----

    private String pick(String... words) {
        return words[random.nextInt(words.length)];
    }

    private String sum(int depth, boolean bids) {
        StringBuilder sum = new StringBuilder(one(depth, bids));
        for (int i = upTo(depth > 0 ? 2 : 1); i > 0; i--) {
            sum.append(pick("+", "-", "*", "/", " + ", "/")).append(one(depth, bids));
        }
        return sum.toString();
    }

    private String one(int depth, boolean bids) {
        int kind = upTo(depth > 0 ? 12 : 6);
        switch (kind) {
            case 0: case 1: return "" + upTo(random.nextInt(4) == 0 ? 9999 : 20);
            case 2: case 3: case 4: case 5: case 6:
                return pick("day", "buyer", "sort", "long", "own", "free", bids ? "wants" : "has");
            case 7: return "(" + sum(depth - 1, bids) + ")";
            case 8: return "-" + one(depth - 1, bids);
            case 9: return "worth " + one(depth - 1, bids);
            case 10: return "purse " + one(depth - 1, bids);
            default:
                return "if " + asks(depth - 1, bids) + " then " + sum(depth - 1, bids) + " else " + sum(depth - 1, bids) + " end";
        }
    }

    private String asks(int depth, boolean bids) {
        String ask = sum(depth, bids) + pick("<", "<=", ">", ">=", "=", "#") + sum(depth, bids);
        if (random.nextInt(3) == 0) {
            ask = "not " + ask;
        }
        return random.nextInt(3) == 0 ? ask + pick(" and ", " or ") + asks(Math.max(0, depth - 1), bids) : ask;
    }

    private String clause() {
        switch (upTo(11)) {
            case 0: case 1: case 2: return "bids " + sum(upTo(4), true) + ";";
            case 3: case 4: return "earns " + sum(upTo(4), false) + ";";
            case 5: return "buyer " + upTo(8) + " to " + (5 + upTo(6)) + ";";
            case 6: return "sort " + upTo(4) + " by " + upTo(9) + ";";
            case 7: return "give " + upTo(11) + ";";
            case 8: return "turn " + upTo(5) + ";";
            case 9: return "day " + (1 + upTo(random.nextInt(3) == 0 ? 59 : 2)) + ";";
            default: return "sell " + upTo(5) + ";";
        }
    }

    private String text() {
        if (random.nextInt(8) == 0) {
            return random.nextInt(3) == 0 ? many() : nested();
        }
        StringBuilder text = new StringBuilder();
        for (int i = upTo(random.nextInt(5) == 0 ? 28 : 6); i > 0; i--) {
            String clause = clause();
            if (text.length() + clause.length() <= 300) {
                boolean twice = text.indexOf(clause.substring(0, 4)) >= 0 && "bidsearn".contains(clause.substring(0, 4));
                text.append(twice && random.nextInt(9) > 0 ? "" : clause);
            }
        }
        for (int i = random.nextInt(3) == 0 ? 1 + upTo(2) : 0; i > 0; i--) {
            mutate(text);
        }
        text.setLength(Math.min(300, text.length()));
        return text.toString();
    }

    /** About as many clauses as a text may have, laws among them. */
    private String many() {
        StringBuilder text = new StringBuilder();
        for (int i = 22 + upTo(3); i > 0; i--) {
            text.append(random.nextInt(20) == 0 ? pick("bids 1;", "earns 2;") : pick("give 1;", "sell 2;", "turn 0;", "day 1;"));
        }
        return text.append(pick("", "", "bids", "give", "sort 1 by 2;", "!")).toString();
    }

    private String nested() {
        StringBuilder text = new StringBuilder(pick("bids ", "earns ", "bids if "));
        for (int i = 4 + upTo(6); i > 0; i--) {
            text.append(pick("(", "-", "worth ", "purse ", "if not ", "if ", "if 1<2 then ", "if 1=2 or not ", "(1+", "2*(", "not "));
        }
        text.append(pick("1", "1=1", "1)", "has", "1 end", "1 then 2 else 3 end"));
        for (int i = upTo(9); i > 0; i--) {
            text.append(pick(")", " end", "=1", " then 1 else 2 end", " and 3>2", ";", "+1"));
        }
        text.setLength(Math.min(300, text.length()));
        return text.toString();
    }

    private void mutate(StringBuilder text) {
        int at = upTo(text.length());
        switch (upTo(2)) {
            case 0:
                if (at < text.length()) {
                    text.deleteCharAt(at);
                }
                break;
            case 1:
                text.insert(at, (char) (random.nextInt(4) == 0 ? upTo(255) : " \n;()+-*/<>=#09azA!_".charAt(upTo(19))));
                break;
            default:
                text.insert(at, pick(" to ", " by ", " bids ", " if ", " then ", " else ", " end ", " not ", " has ", " wants ", "10000",
                    " 12 ", " 61 ", " 5 ", "(", ")", ";", " worth ", " own ", " and ", "<="));
                break;
        }
    }

    private void tellText() {
        String text = text();
        call("end", 0);
        for (int i = 0; i < text.length(); i += 20) {
            call("feed", Check.four(text, i), Check.four(text, i + 4), Check.four(text, i + 8), Check.four(text, i + 12),
                Check.four(text, i + 16));
        }
        call("end", text.length());
        calls.add("  the text: " + text);
        if (call("text") >= 0) {
            call("by", upTo(Math.max(0, (int) call("about", 1) - 1)));
        }
        many.merge("fault of number " + call("fault", 0), 1, Integer::sum);
        call("fault", 1);
    }

    // ---- calls ----

    private void tell() {
        switch (upTo(9)) {
            case 0: call("sort", any(0, 4), any(0, 9), any(0, 99)); break;
            case 1: case 2: {
                int from = any(0, random.nextInt(3) == 0 ? 2 : 9);
                int to = Math.max(from, from + upTo(random.nextInt(3) == 0 ? 9 : 3));
                call("buyer", random.nextInt(3) == 0 ? 31 : any(1, 31), from, random.nextInt(4) == 0 ? any(0, 11) : Math.min(to, 11), any(0, random.nextInt(5) == 0 ? 999 : 120));
                break;
            }
            case 3: call("value", any(0, 11), any(0, 99)); break;
            case 4: call("paid", any(-1, 5), random.nextInt(3) == 0); break;
            case 5: call("said", any(0, 5), random.nextBoolean() ? (int) call("of", upTo(5), 4) : any(0, 99)); break;
            case 6: tellText(); break;
            case 7: call("by", any(-1, 3)); break;
            case 8: if (random.nextInt(3) == 0) { call("said", -1, any(0, 9)); } break;
            default: for (int i = 0; random.nextInt(9) == 0 && i < 5; i++) { call("sort", i, 0, upTo(99)); } break;
        }
    }

    private void act() {
        switch (upTo(14)) {
            case 0: case 1: case 2: case 3: case 4: call("sell", any(0, 5)); break;
            case 5: call("give", any(0, 11)); break;
            case 6: call("turn", any(0, 5)); break;
            case 7: call("pass", any(0, 5), any(0, 5)); break;
            case 8: passOn(); break;
            case 9: call("day", any(1, random.nextInt(5) == 0 ? 60 : 3)); break;
            case 10: call("played", any(0, 3)); break;
            case 11: call("years", any(0, 9999), any(1, 40)); break;
            case 12: case 13: for (int i = upTo(4); i >= 0; i--) { call("undo"); } break;
            default: call(random.nextBoolean() ? "image" : "back"); break;
        }
    }

    /** Tries to pass from a buyer that has slices to every other one. */
    private void passOn() {
        for (int slice = 0; slice < 12; slice++) {
            int from = (int) call("at", slice);
            for (int to = 0; to < 6 && from >= 0 && from < 6; to++) {
                call("pass", from, to);
                slice = 12;
            }
        }
    }

    private void look() {
        List<String> names = new ArrayList<>(METHODS.keySet());
        names.removeAll(List.of("sort", "buyer", "feed", "end", "text", "by", "sell", "give", "turn", "pass", "day", "played",
            "years", "undo", "image", "back", "paid", "said", "value"));
        String name = names.get(random.nextInt(names.size()));
        Class<?>[] types = METHODS.get(name)[0].getParameterTypes();
        Object[] arguments = new Object[types.length];
        for (int i = 0; i < types.length; i++) {
            arguments[i] = types[i] == boolean.class ? (Object) random.nextBoolean() : (Object) any(0, most(name, i));
        }
        if (List.of("ends", "take", "best").contains(name) && (int) arguments[0] > (int) arguments[1] && random.nextInt(9) > 0) {
            Object first = arguments[0];
            arguments[0] = arguments[1];
            arguments[1] = first;
        }
        call(name, arguments);
    }

    private static int most(String name, int i) {
        switch (name) {
            case "of": return i == 0 ? 5 : 6;
            case "book": return i == 0 ? 24 : 3;
            case "foretold": return i == 0 ? 20 : 1;
            case "month": return 60;
            case "see": return i == 0 ? 20 : 4;
            case "hope": case "keep": case "about": return 6;
            case "auction": case "best": return i == 0 || i == 1 && name.equals("best") ? 11 : 2;
            case "at": case "ends": case "take": case "room": return 11;
            case "dawns": case "rival": case "alone": case "can": return 5;
            case "ofSort": return i == 0 ? 4 : 1;
            case "fault": return 1;
            default: return 4;
        }
    }

    private void lookAtAll() {
        for (int i = 0; i < 12; i++) {
            call("at", i);
            call("is", i);
            call("about", i);
            call("of", i % 6, 3);
            call("of", i % 6, 4);
            call("book", i * 2, i % 4);
            call("book", 24 - i, i % 4);
        }
        call("stab", false);
        call("pack", 2, true);
    }

    private boolean run() {
        boolean late = random.nextInt(20) == 0;
        for (int i = 0; late && i < 167; i++) {
            call("day", i == 166 ? 32 : 60);
        }
        while (made < CALLS && !wrong) {
            int kind = upTo(9);
            if (kind < 3) {
                tell();
            } else if (kind < 7) {
                act();
            } else if (random.nextInt(40) == 0) {
                lookAtAll();
            } else {
                look();
            }
        }
        if (wrong) {
            calls.forEach(call -> System.out.println("  " + call));
        }
        return !wrong;
    }

    public static void main(String[] args) {
        int runs = args.length > 0 ? Integer.parseInt(args[0]) : RUNS;
        long seed = args.length > 1 ? Long.parseLong(args[1]) : 1;
        Map<String, Integer> many = new TreeMap<>();
        for (int i = 0; i < runs; i++) {
            if (!new ModelTest(seed + i, many).run()) {
                System.out.println("the run by seed " + (seed + i) + " went wrong");
                break;
            }
        }
        if (args.length > 0) {
            System.out.println(many);
        }
        Check.report("ModelTest");
    }
}

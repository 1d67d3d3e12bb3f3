import java.lang.reflect.InvocationTargetException;
import java.lang.reflect.Method;
import java.nio.charset.StandardCharsets;
import java.util.ArrayList;
import java.util.Arrays;
import java.util.List;
import java.util.Map;
import java.util.Random;
import java.util.TreeMap;

/** Long runs of calls by fixed seeds, on the class and on the model: all answers and all exceptions are the same. */
final class ModelTest {
    private static final int RUNS = 1500;
    private static final int CALLS = 512;
    private static final int[] EDGES = {-1, 0, 1, 2, 15, 16, 95, 96, 97, 999, 1000, 9999, 10000, -2,
        Integer.MIN_VALUE, Integer.MAX_VALUE};

    private final Random random;
    private final ArchEnds real = new ArchEnds();
    private final Model model = new Model();
    private final List<String> told = new ArrayList<>();
    private static final Map<String, Method> REAL = methods(ArchEnds.class);
    private static final Map<String, Method> MODEL = methods(Model.class);
    private static final Map<String, Integer> ANSWERED = new TreeMap<>();
    private static final Map<String, Integer> THROWN = new TreeMap<>();

    private ModelTest(long seed) {
        random = new Random(seed);
    }

    public static void main(String[] args) {
        for (int i = 0; i < RUNS; i++) {
            if (!new ModelTest(i).run()) {
                System.exit(1);
            }
        }
        for (String name : REAL.keySet()) {
            Check.due(name + " was answered in some run", ANSWERED.getOrDefault(name, 0) > 0, true);
        }
        if (args.length > 0) {
            System.out.println("answered " + ANSWERED + "\nthrown " + THROWN);
        }
        Check.finish();
    }

    private static Map<String, Method> methods(Class<?> of) {
        Map<String, Method> all = new TreeMap<>();
        for (Method m : of.getDeclaredMethods()) {
            if (!java.lang.reflect.Modifier.isPrivate(m.getModifiers())
                    && !java.lang.reflect.Modifier.isStatic(m.getModifiers())) {
                m.setAccessible(true);
                all.put(m.getName(), m);
            }
        }
        return all;
    }

    private static Object answer(Method m, Object on, Object[] args) {
        try {
            return m.invoke(on, args);
        } catch (InvocationTargetException e) {
            return e.getCause().getClass();
        } catch (IllegalAccessException e) {
            throw new IllegalStateException(e);
        }
    }

    private boolean call(String name, Object... args) {
        Object got = answer(REAL.get(name), real, args);
        Object want = name.equals("feed")
                ? (Object) model.feed(Arrays.stream(args).mapToInt(a -> (Integer) a).toArray())
                : answer(MODEL.get(name), model, args);
        told.add(name + Arrays.toString(args) + " = " + got);
        (got instanceof Class ? THROWN : ANSWERED).merge(name, 1, Integer::sum);
        if (String.valueOf(got).equals(String.valueOf(want))) {
            return true;
        }
        told.forEach(System.out::println);
        System.out.println("due is " + want);
        return false;
    }

    private boolean run() {
        int start = random.nextInt(6);
        boolean right = start == 0 || (start == 1 ? fullCounty() : livelyCounty());
        right = right && text("county", countyText(random.nextBoolean() ? 14 : 4));
        if (random.nextInt(3) > 0) {
            right = right && text("law", lawText());
        }
        List<String> names = new ArrayList<>(REAL.keySet());
        names.removeAll(List.of("feed", "end", "county", "law"));
        for (int i = 0; i < 6; i++) {
            names.addAll(List.of("buy", "go", "minutes", "undo"));
        }
        while (right && told.size() < CALLS - 25) {
            int kind = random.nextInt(100);
            if (kind < 2) {
                right = text("county", mutated(countyText(4)));
            } else if (kind < 4) {
                right = text("law", mutated(lawText()));
            } else if (kind < 5) {
                right = call("feed", bits(), bits(), bits(), bits(), bits()) && call("end", number());
            } else {
                right = any(names.get(random.nextInt(names.size())));
            }
        }
        return right;
    }

    private int bits() {
        return random.nextInt();
    }

    private boolean any(String name) {
        if (List.of("send", "seen", "ask").contains(name) && !tapeFor(name)) {
            return false;
        }
        if (name.equals("minutes") && random.nextInt(4) > 0) {
            return call(name, 1 + random.nextInt(9));
        }
        Class<?>[] types = REAL.get(name).getParameterTypes();
        Object[] args = new Object[types.length];
        boolean fair = random.nextInt(8) > 0;
        for (int i = 0; i < args.length; i++) {
            args[i] = types[i] == boolean.class ? (Object) random.nextBoolean()
                    : (Object) (fair ? fairNumber(name, i) : number());
        }
        return call(name, args);
    }

    private int number() {
        return random.nextBoolean() ? EDGES[random.nextInt(EDGES.length)] : random.nextInt(130);
    }

    private int fairNumber(String name, int i) {
        String kinds = switch (name) {
            case "shower" -> "sw";
            case "broker" -> "bw";
            case "deed" -> "dw";
            case "costs", "buy", "gain" -> "bd";
            case "brings" -> "bdm";
            case "sell" -> "db";
            case "go" -> "ba";
            case "tell" -> "st";
            case "road", "rush", "led" -> "a";
            case "insure", "hope" -> "d";
            case "minutes", "trial", "span" -> "n";
            case "sun", "reach", "spray", "seen", "ask" -> "m";
            case "foot", "arch", "wets", "looks", "first", "odds" -> "am";
            case "stands", "site" -> "amn";
            case "best" -> "mn";
            case "deals", "send" -> "b";
            case "meet" -> "bb";
            case "both" -> "aamn";
            case "rests" -> "bbdd";
            case "row" -> "tmk";
            case "ahead" -> "bn";
            case "log" -> "kt";
            case "count" -> "c";
            default -> "nnnnn";
        };
        return switch (kinds.charAt(i)) {
            case 's' -> oneOf(model.count(0));
            case 'b' -> oneOf(model.count(1) + (name.equals("send") ? 1 : 0)) - (name.equals("send") ? 1 : 0);
            case 'd' -> oneOf(model.count(2));
            case 'w' -> random.nextInt(7);
            case 'm' -> random.nextInt(random.nextInt(4) == 0 ? 1200 : 110);
            case 'a' -> random.nextInt(16);
            case 't' -> random.nextInt(4);
            case 'k' -> random.nextInt(12) - 1;
            case 'c' -> random.nextInt(13);
            default -> 1 + random.nextInt(96);
        };
    }

    /** Mostly one that there is. */
    private int oneOf(int size) {
        return random.nextInt(random.nextInt(10) == 0 || size == 0 ? size + 1 : size);
    }

    private boolean tapeFor(String name) {
        int brokers = model.count(1);
        int length = name.equals("send") ? brokers : 2 * random.nextInt(4);
        if (random.nextInt(12) == 0) {
            length = random.nextInt(50);
        }
        byte[] bytes = new byte[length];
        for (int i = 0; i < length; i++) {
            bytes[i] = (byte) (name.equals("send") || i % 2 == 0 ? random.nextInt(16) : random.nextInt(2));
            if (random.nextInt(60) == 0) {
                bytes[i] = (byte) random.nextInt(256);
            }
        }
        return tape(bytes);
    }

    private boolean tape(byte[] bytes) {
        boolean right = call("end", 0);
        for (int i = 0; i < bytes.length && right; i += 20) {
            int[] n = new int[5];
            for (int j = 0; j < 20 && i + j < bytes.length; j++) {
                n[j / 4] |= (bytes[i + j] & 255) << (24 - j % 4 * 8);
            }
            right = call("feed", n[0], n[1], n[2], n[3], n[4]);
        }
        return right && call("end", bytes.length);
    }

    private boolean text(String call, String text) {
        String cut = text.length() > 400 ? text.substring(0, 400) : text;
        told.add(call + " <- " + cut);
        return tape(cut.getBytes(StandardCharsets.ISO_8859_1)) && call(call) && call("fault");
    }

    // ---- texts

    private String blank() {
        return random.nextInt(10) == 0 ? "  " : " ";
    }

    private int upTo(int most) {
        return random.nextInt(most + 1);
    }

    private String countyText(int lines) {
        StringBuilder text = new StringBuilder();
        int n = upTo(lines);
        for (int i = 0; i < n; i++) {
            text.append(i > 0 ? ";" : "").append(countyLine());
        }
        return text.toString();
    }

    /** As many showers, brokers and deeds as there can be. */
    private boolean fullCounty() {
        StringBuilder first = new StringBuilder("road 8");
        StringBuilder second = new StringBuilder("wage 8");
        StringBuilder third = new StringBuilder("wage 9");
        for (int i = 0; i < 6; i++) {
            first.append(";shower ").append(upTo(8)).append(" to 9 from ").append(upTo(9)).append(" to ").append(10 + upTo(80));
            first.append(random.nextBoolean() ? " east 1" : "").append(random.nextBoolean() ? " chance 60" : "");
        }
        for (int i = 0; i < 5; i++) {
            second.append(";broker ").append(99 + upTo(900)).append(" at ").append(upTo(15)).append(" pace ").append(1 + upTo(3));
        }
        for (int i = 0; i < 8; i++) {
            third.append(";deed ").append(2 + upTo(5)).append(" from ").append(upTo(9)).append(" to ").append(20 + upTo(60));
            third.append(" price ").append(upTo(99));
        }
        boolean right = text("county", first.toString()) && text("county", second.toString())
                && text("county", third.toString());
        Check.due("a full county", real.count(0) * 100 + real.count(1) * 10 + real.count(2), 658);
        return right;
    }

    /** Brokers with money, and deeds for acres under a foot while showers are likely. */
    private boolean livelyCounty() {
        StringBuilder text = new StringBuilder("road " + (6 + upTo(4)) + ";wage " + upTo(99));
        for (int i = 2 + upTo(1); i > 0; i--) {
            text.append(";broker ").append(300 + upTo(699)).append(" at ").append(upTo(15)).append(" pace ").append(1 + upTo(3));
        }
        for (int i = 2 + upTo(3); i > 0; i--) {
            text.append(";deed ").append(2 + upTo(11)).append(" from ").append(upTo(9)).append(" to ").append(20 + upTo(200));
            text.append(" price ").append(upTo(99));
        }
        StringBuilder more = new StringBuilder("road 8");
        for (int i = 1 + upTo(2); i > 0; i--) {
            int low = upTo(9);
            more.append(";shower ").append(low).append(" to ").append(low + upTo(6)).append(" from ").append(upTo(30));
            more.append(" to ").append(31 + upTo(200)).append(random.nextBoolean() ? " east 1" : "");
            more.append(random.nextBoolean() ? " chance 60" : "");
        }
        boolean right = text("county", text.toString()) && text("county", more.toString());
        Check.due("a lively county", real.count(0) > 0 && real.count(1) > 1 && real.count(2) > 1, true);
        return right;
    }

    private String countyLine() {
        int low = upTo(15);
        int begin = random.nextInt(10) == 0 ? upTo(999) : upTo(90);
        int end = Math.min(999, begin + upTo(random.nextInt(10) == 0 ? 500 : 60));
        switch (random.nextInt(10)) {
            case 0, 1, 2:
                return "shower" + blank() + low + " to " + (low + upTo(15 - low)) + " from " + begin + blank() + "to "
                        + end + (random.nextBoolean() ? (random.nextBoolean() ? " east " : " west ") + upTo(2) : "")
                        + (random.nextInt(3) > 0 ? " chance " + upTo(100) : "");
            case 3, 4:
                return "broker " + upTo(999) + " at " + low + blank() + "pace " + (1 + upTo(3));
            case 5, 6, 7:
                return "deed " + upTo(15) + " from " + begin + " to " + end + " price " + upTo(random.nextInt(3) == 0 ? 999 : 60);
            case 8:
                return random.nextBoolean() ? "road " + low : "wage " + upTo(99);
            default:
                return random.nextInt(3) == 0 ? "minute " + begin : "road " + low;
        }
    }

    private String lawText() {
        StringBuilder text = new StringBuilder();
        int n = upTo(random.nextInt(10) == 0 ? 14 : 5);
        for (int i = 0; i < n; i++) {
            String head = List.of("cost ", "bring ", "slow ").get(random.nextInt(3));
            int much = head.equals("slow ") ? upTo(3) : upTo(99);
            text.append(i > 0 ? ";" : "").append(head).append(much);
            if (random.nextInt(4) > 0) {
                text.append(" if ").append(condition(random.nextInt(12) == 0 ? 8 : 3));
            }
        }
        return text.toString();
    }

    private String condition(int deep) {
        StringBuilder text = new StringBuilder(atom(deep));
        for (int i = random.nextInt(3); i > 0; i--) {
            text.append(random.nextBoolean() ? " and " : " or ").append(atom(deep));
        }
        return text.toString();
    }

    private String atom(int deep) {
        int kind = random.nextInt(deep > 3 ? 3 : 8);
        if (deep > 0 && kind == 0) {
            return "not " + atom(deep - 1);
        }
        if (deep > 0 && kind <= 2) {
            return "(" + (deep > 3 ? atom(deep - 1) : condition(deep - 1)) + ")";
        }
        return switch (kind) {
            case 3 -> "wet";
            case 4 -> "owned";
            default -> sum() + (random.nextBoolean() ? "<" : " > ") + sum();
        };
    }

    private String sum() {
        StringBuilder text = new StringBuilder(part());
        for (int i = random.nextInt(3); i > 1; i--) {
            text.append("+").append(part());
        }
        return text.toString();
    }

    private String part() {
        return random.nextInt(3) == 0 ? String.valueOf(upTo(random.nextInt(5) == 0 ? 1100 : 20))
                : List.of("acre", "sun", "reach", "hour", "many", "who").get(random.nextInt(6));
    }

    private String mutated(String text) {
        StringBuilder out = new StringBuilder(text);
        for (int i = random.nextInt(3); i > 0 && out.length() > 0; i--) {
            int at = random.nextInt(out.length());
            switch (random.nextInt(4)) {
                case 0 -> out.deleteCharAt(at);
                case 1 -> out.insert(at, ";()<>+ 0123459azx".charAt(random.nextInt(17)));
                case 2 -> out.setLength(at);
                default -> out.setCharAt(at, (char) random.nextInt(256));
            }
        }
        return out.toString();
    }
}

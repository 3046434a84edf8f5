import java.lang.reflect.InvocationTargetException;
import java.lang.reflect.Method;
import java.util.ArrayList;
import java.util.Arrays;
import java.util.List;
import java.util.Random;

/** Many runs of up to 512 calls, each answer and each exception held against Model. */
public final class RandomTest {
    private static final int RUNS = 400;
    private final Random dice;
    private final MiddleUnseen real = new MiddleUnseen();
    private final Model model = new Model();
    private final List<String> log = new ArrayList<>();
    private int calls = 0;
    private boolean failed = false;

    private static final List<Method> FACE = new ArrayList<>();

    RandomTest(long seed) {
        dice = new Random(seed);
    }

    public static void main(String[] args) throws Exception {
        for (Method m : MiddleUnseen.class.getDeclaredMethods()) {
            if (java.lang.reflect.Modifier.isPublic(m.getModifiers())) {
                FACE.add(m);
            }
        }
        FACE.sort((a, b) -> a.getName().compareTo(b.getName()));
        int runs = args.length > 0 ? Integer.parseInt(args[0]) : RUNS;
        int from = args.length > 1 ? Integer.parseInt(args[1]) : 0;
        int wrong = 0;
        java.util.Map<String, java.util.Map<Object, Integer>> spread = new java.util.TreeMap<>();
        for (int k = 0; k < runs; k++) {
            RandomTest t = new RandomTest(from + k);
            t.spread = spread;
            if (!t.run()) {
                wrong++;
                System.out.println("seed " + (from + k) + ":");
                t.log.forEach(System.out::println);
                if (wrong == 3) {
                    break;
                }
            }
        }
        if (args.length > 2) {
            spread.forEach((n, m) -> System.out.println(n + " " + m));
        }
        System.out.println(wrong == 0 ? "all runs are as the model has them" : wrong + " runs are not");
        System.exit(wrong == 0 ? 0 : 1);
    }

    private java.util.Map<String, java.util.Map<Object, Integer>> spread;

    private static Object call(Object on, Method m, Object[] args) throws Exception {
        try {
            Method mine = on.getClass() == m.getDeclaringClass() ? m
                    : on.getClass().getDeclaredMethod(m.getName(), m.getParameterTypes());
            mine.setAccessible(true);
            return mine.invoke(on, args);
        } catch (InvocationTargetException e) {
            return "throws " + e.getCause().getClass().getName();
        }
    }

    private Object both(String name, Object... args) throws Exception {
        if (calls == 512 || failed) {
            return null;
        }
        calls++;
        Method m = FACE.stream().filter(x -> x.getName().equals(name)).findFirst().orElseThrow();
        Object due = name.equals("fault") ? (Object) model.fault : call(model, m, args);
        Object got = call(real, m, args);
        String row = name + Arrays.toString(args) + " = " + got;
        if (!due.equals(got)) {
            failed = true;
            row += "  DUE " + due;
        }
        if (spread != null) {
            spread.computeIfAbsent(name, k -> new java.util.TreeMap<>(java.util.Comparator.comparing(Object::toString)))
                    .merge(got, 1, Integer::sum);
        }
        log.add(row);
        return got;
    }

    private int r(int n) {
        return dice.nextInt(n);
    }

    private <T> T one(List<T> list) {
        return list.get(r(list.size()));
    }

    private void text(String kind, String text) throws Exception {
        if (dice.nextInt(12) == 0 && !text.isEmpty()) {
            text = spoilt(text);
        }
        if (text.length() > 400) {
            text = text.substring(0, 400);
        }
        log.add("// " + text);
        byte[] b = Arrays.copyOf(text.getBytes(java.nio.charset.StandardCharsets.ISO_8859_1), (text.length() + 19) / 20 * 20);
        java.nio.ByteBuffer buffer = java.nio.ByteBuffer.wrap(b);
        for (int k = 0; k < b.length; k += 20) {
            both("feed", buffer.getInt(), buffer.getInt(), buffer.getInt(), buffer.getInt(), buffer.getInt());
        }
        both(kind, text.length());
        both("fault");
    }

    private String spoilt(String text) {
        StringBuilder b = new StringBuilder(text);
        int n = 1 + r(3);
        for (int k = 0; k < n && b.length() > 0; k++) {
            int at = r(b.length());
            String sign = one(List.of(" ", "  ", ";", "(", ")", "[", "]", "not ", "0", "9", "99", "300", "a", "or", "and", "if",
                    ",", "+", "*", "/", "<", "=", "near", "least(", "\u0000", "\u00ff", "thing 1 1;", "odd 0;", "4000000000000"));
            switch (r(3)) {
                case 0 -> b.deleteCharAt(at);
                case 1 -> b.insert(at, sign);
                default -> b.replace(at, at + 1, sign);
            }
        }
        return b.toString();
    }

    private String gap() {
        return r(9) == 0 ? one(List.of(" ", "  ", "   ")) : "";
    }

    private String scene(int span) {
        StringBuilder b = new StringBuilder();
        int things = r(20) == 0 ? r(3) : 1 + r(r(6) == 0 ? 9 : 5);
        for (int k = 0; k < things; k++) {
            b.append(gap()).append("thing ").append(r(r(3) == 0 ? 8 : 3)).append(gap()).append(" ").append(1 + r(9)).append(gap()).append(";");
        }
        int more = r(r(8) == 0 ? 26 : 12);
        for (int k = 0; k < more && things > 0; k++) {
            int t = r(things);
            switch (r(7)) {
                case 0, 1, 2 -> {
                    int f = r(span);
                    b.append("way ").append(t).append(" ").append(f).append(" ").append(r(40)).append(" ").append(r(30))
                            .append(" ").append(f + r(span)).append(" ").append(r(40)).append(" ").append(r(30));
                }
                case 3, 4 -> b.append("throw ").append(t).append(" ").append(things == 1 ? 0 : (t + 1 + r(things - 1)) % things)
                        .append(" ").append(r(span));
                case 5 -> b.append("odd ").append(t);
                default -> b.append("turn ").append(t).append(" ").append(r(span)).append(" ").append(r(3));
            }
            b.append(gap()).append(";").append(gap());
        }
        return b.toString();
    }

    private String task() {
        StringBuilder b = new StringBuilder();
        int n = r(r(9) == 0 ? 18 : 6);
        for (int k = 0; k < n; k++) {
            b.append(gap()).append(one(List.of("keep", "drop", "count", "count", "room", "watch"))).append(gap()).append(" ").append(r(r(4) == 0 ? 9 : 3)).append(gap()).append(";");
        }
        return b.toString();
    }

    private String e(int depth) {
        StringBuilder b = new StringBuilder(t(depth));
        while (r(4) == 0) {
            b.append(gap()).append(one(List.of("+", "-"))).append(gap()).append(t(depth));
        }
        return b.toString();
    }

    private String t(int depth) {
        StringBuilder b = new StringBuilder(u(depth));
        while (r(4) == 0) {
            b.append(gap()).append(one(List.of("*", "/"))).append(u(depth));
        }
        return b.toString();
    }

    private String u(int depth) {
        switch (r(depth > 0 ? 10 : 7)) {
            case 0, 1: return String.valueOf(r(r(6) == 0 ? 10000 : 60));
            case 2, 3, 4, 5, 6: return gap() + one(Model.NAMES);
            case 7: return one(List.of("least", "most")) + gap() + "(" + e(depth - 1) + gap() + "," + e(depth - 1) + ")";
            default: return gap() + "(" + e(depth - 1) + gap() + ")";
        }
    }

    private String c(int depth) {
        StringBuilder b = new StringBuilder(a(depth));
        while (r(4) == 0) {
            b.append(" or ").append(a(depth));
        }
        return b.toString();
    }

    private String a(int depth) {
        StringBuilder b = new StringBuilder(b(depth));
        while (r(4) == 0) {
            b.append(" and ").append(b(depth));
        }
        return b.toString();
    }

    private String b(int depth) {
        switch (r(depth > 0 ? 6 : 3)) {
            case 3: return "not " + b(depth - 1);
            case 4: return gap() + "[" + c(depth - 1) + "]";
            default: return e(Math.min(depth, 1)) + gap() + one(List.of("<", ">", "=")) + e(Math.min(depth, 1));
        }
    }

    private String law() {
        StringBuilder b = new StringBuilder();
        int n = r(r(9) == 0 ? 18 : 6);
        for (int k = 0; k < n; k++) {
            int depth = r(r(5) == 0 ? 8 : 3);
            b.append(gap());
            switch (r(8)) {
                case 0, 1, 2, 3 -> b.append("gets ").append(r(2) == 0 ? e(depth) : one(List.of("size*5", "40-near", "10-pace*3", "odd*20", "9")));
                case 4, 5 -> b.append("line ").append(r(2) == 0 ? e(depth) : one(List.of("60", "150", "90-tenth", "20*size", "5+watch")));
                case 6 -> b.append("keeps ").append(r(2) == 0 ? e(depth) : one(List.of("3", "10", "20")));
                default -> b.append("sure ").append(r(2) == 0 ? e(depth) : one(List.of("100", "300", "size*40")));
            }
            if (r(2) == 0) {
                b.append(" if ").append(r(2) == 0 ? c(depth) : one(List.of("near<8", "like=1 or odd=1", "not drop=1", "near<12 and pace<2", "change=1", "knows=0")));
            }
            b.append(gap()).append(";");
        }
        return b.toString();
    }

    private int wild(int n) {
        return r(25) == 0 ? one(List.of(-1, n, n + 1, Integer.MIN_VALUE, Integer.MAX_VALUE, -2)) : r(Math.max(1, n));
    }

    private Object argument(String method, int k, Method m, int span) {
        if (m.getParameterTypes()[k] == boolean.class) {
            return r(2) == 0;
        }
        String p = m.getName() + k;
        switch (p) {
            case "told0", "thing0", "throwsOf0", "looker0", "share0", "guessed0", "guessed1", "apart0", "apart2", "gone0",
                "cost0", "off0", "crossing0": return wild(model.scenes.size());
            case "kept0", "throwsOf1", "looker1", "share1", "guessed2", "apart1", "apart3", "gone1", "cost1", "cost2",
                "off1", "crossing1": return wild(model.tasks.size());
            case "gets0", "seen0", "says0", "miss0", "drawn0", "change0", "yet0", "least0", "weigh0", "odds0",
                "knowing0": return wild(model.laws.size());
            case "eyes0", "blink0", "eye0", "on0", "name0", "gets1", "seen1", "says1", "miss1", "drawn1", "change1",
                "least1", "answer0", "counted0", "sure0", "lost0": return wild(model.hall.lookers.size());
            case "thing1", "name1", "gets2", "seen2": return wild(5);
            case "thing2", "eyes1", "blink1", "blink2", "eye1", "name2", "gets3": return r(9) == 0 ? wild(300) : wild(span * 2);
            case "eyes2": return wild(40);
            case "eyes3": return wild(30);
            case "on1": return wild(41);
            case "name3": return wild(11);
            case "miss2": return r(2) == 0 ? wild(100) : wild(12);
            case "drawn2": return wild(51);
            case "drawn3": return dice.nextInt();
            case "counted1": return r(9) == 0 ? wild(1000) : wild(5);
            case "sure1": return wild(101);
            case "weigh1", "wrong0": return r(10);
            case "fits0", "crossing3": return r(2) == 0 ? wild(15) : r(4);
            case "count0": return wild(9);
            case "told1", "thing3": return wild(6);
            case "kept1": return wild(5);
            case "share3": return wild(4);
            case "scene0", "task0", "law0": return wild(model.tape.size() + 1);
            default: return wild(3);
        }
    }

    private boolean run() throws Exception {
        int span = r(5) == 0 ? 150 : 5 + r(30);
        int texts = 3 + r(12);
        for (int k = 0; k < texts; k++) {
            switch (r(4)) {
                case 0 -> text("task", task());
                case 1 -> text("law", law());
                default -> text("scene", scene(span));
            }
        }
        if (model.scenes.isEmpty()) {
            text("scene", "thing 0 3;thing 1 2;way 0 0 20 15 20 20 15;way 1 5 0 15 15 20 15;odd 1;throw 0 1 3;turn 1 8 0;");
        }
        text("task", "keep 0;drop 1;count 0;");
        text("law", law());
        for (int k = r(15); k > 0; k--) {
            both("looker", wild(model.scenes.size()), wild(model.tasks.size()), r(4) == 0);
        }
        boolean answers = r(2) == 0;
        for (int k = 0; k < 512 && calls < 512 && !failed; k++) {
            Method m = one(FACE);
            String n = m.getName();
            if (n.equals("feed") || (n.equals("scene") || n.equals("task") || n.equals("law")) && r(6) > 0) {
                if (r(30) == 0) {
                    text(one(List.of("scene", "task", "law")), one(List.of(scene(span), task(), law())));
                }
                continue;
            }
            if (answers && r(3) == 0) {
                m = FACE.stream().filter(x -> x.getName().equals("answer")).findFirst().orElseThrow();
            }
            if ((n.equals("eyes") || n.equals("blink")) && r(3) > 0) {
                continue;
            }
            Object[] args = new Object[m.getParameterCount()];
            for (int i = 0; i < args.length; i++) {
                args[i] = argument(n, i, m, span);
            }
            both(m.getName(), args);
        }
        return !failed;
    }
}

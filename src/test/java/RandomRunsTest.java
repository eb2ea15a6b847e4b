import java.util.ArrayList;
import java.util.List;
import java.util.Random;
import java.util.TreeMap;

/**
 * Runs of calls drawn with fixed seeds, each call asked of the program and of help/Reference.java, and both answers
 * compared. It also asks that the runs came by every error, verdict and exception, so that they prove something.
 */
public final class RandomRunsTest {
    private static final int RUNS = Integer.getInteger("runs", 1500);
    private static final long FIRST_SEED = Long.getLong("seed", 1L);
    private static final int CALLS = 512;

    private static final String[] METHODS = {"define", "removeClass", "setClass", "exists", "classInfo",
        "copyVersion", "draft", "addField", "addMethod", "removeMember", "setMember", "moveMember", "members",
        "memberInfo", "fits", "field", "method", "selected", "addClient", "setBase", "removeClient", "clients",
        "clientInfo", "compile", "link", "target", "verdict", "count", "sample", "undo", "checksum"};
    private static final int[] ARGUMENTS = {5, 2, 4, 2, 3, 0, 4, 5, 5, 2, 4, 3, 1, 3, 3, 3, 3, 3, 4, 2, 1, 0, 2, 2, 2,
        2, 1, 1, 3, 0, 0};
    private static final int[] WEIGHTS = {30, 4, 30, 2, 12, 4, 60, 16, 60, 6, 30, 16, 2, 8, 6, 12, 20, 20, 40, 12, 4,
        2, 8, 16, 16, 16, 24, 6, 6, 6, 3};
    /** For the runs that build the old version first, then clients, and change the new version at last. */
    private static final int[] BUILDING = {30, 0, 30, 0, 2, 0, 60, 16, 80, 1, 6, 6, 0, 1, 1, 8, 10, 6, 0, 0, 0, 0, 0,
        0, 0, 0, 0, 0, 0, 0, 0};
    private static final int[] CLIENTS = {0, 0, 6, 0, 0, 0, 60, 0, 20, 0, 4, 0, 0, 0, 0, 0, 0, 0, 80, 30, 2, 0, 2, 0,
        0, 0, 0, 0, 0, 0, 0};
    private static final int[] CHANGING = {10, 4, 40, 0, 6, 0, 40, 10, 40, 10, 40, 20, 0, 2, 1, 10, 10, 10, 0, 10, 1,
        0, 4, 40, 40, 30, 40, 10, 10, 8, 3};
    private static final int BUILT = 140;
    private static final int PEOPLED = 220;

    private static final TreeMap<String, Integer> SEEN = new TreeMap<>();

    private Random random;
    private CompatibilityJudge judge;
    private Reference reference;
    private int names;
    private int newShare;
    /** The name and class of the method that the draft was taken from, for overloads and calls of it. */
    private int likeName = 0;
    private int likeClass = 1;

    public static void main(String[] args) {
        int wrong = 0;
        for (int run = 0; run < RUNS && wrong < 5; run++) {
            wrong += new RandomRunsTest().play(FIRST_SEED + run) ? 0 : 1;
        }
        wrong += missing("compile", 0, 8) + missing("link", 0, 7) + missing("verdict", 0, 5)
                + missing("target", -2, -2) + missing("target", 1, 9) + missing("sample", -2, 5)
                + missing("selected", -2, -2) + missing("method", -2, -2) + missing("field", -2, -2);
        if (Boolean.getBoolean("show")) {
            SEEN.forEach((k, v) -> System.out.println(k + ": " + v));
        }
        System.out.println(wrong == 0 ? RUNS + " random runs answered alike" : "random runs: " + wrong + " wrong");
        if (wrong != 0) {
            System.exit(1);
        }
    }

    private static int missing(String method, int low, int high) {
        int wrong = 0;
        for (int value = low; value <= high; value++) {
            if (!SEEN.containsKey(method + " " + value)) {
                System.out.println("no run had " + method + " answer " + value);
                wrong++;
            }
        }
        return wrong;
    }

    private boolean play(long seed) {
        random = new Random(seed);
        judge = new CompatibilityJudge();
        reference = new Reference();
        names = 1 + random.nextInt(random.nextBoolean() ? 3 : 8);
        newShare = 10 + random.nextInt(70);
        boolean phased = random.nextInt(3) != 0;
        List<String> told = new ArrayList<>();
        if (random.nextInt(3) == 0) {
            removeMembers(told);
        }
        for (int k = told.size(); k < CALLS; k++) {
            int method = k % 64 == 63 ? METHODS.length - 1 : phased ? inPhase(k) : weighted(WEIGHTS);
            int[] a = arguments(method);
            String got = answer(false, method, a);
            String want = answer(true, method, a);
            note(method, got);
            told.add(text(method, a) + " answered " + got);
            if (!got.equals(want)) {
                told.forEach(System.out::println);
                System.out.println("seed " + seed + ": the last call should answer " + want);
                return false;
            }
        }
        return true;
    }

    /** So that other members than those of the beginning have the lowest numbers. */
    private void removeMembers(List<String> told) {
        for (int k = 0; k < 16; k++) {
            judge.removeMember(k % 2, 0);
            reference.removeMember(k % 2, 0);
            told.add("removeMember(" + k % 2 + ", 0)");
        }
    }

    private static void note(int method, String answer) {
        if (!METHODS[method].equals("checksum")) {
            SEEN.merge(METHODS[method] + " " + answer, 1, Integer::sum);
        }
    }

    private int inPhase(int k) {
        newShare = k < PEOPLED ? 2 : 85;
        if (k == BUILT || k == PEOPLED) {
            return 5;
        }
        return weighted(k < BUILT ? BUILDING : k < PEOPLED ? CLIENTS : CHANGING);
    }

    private int weighted(int[] weights) {
        int sum = 0;
        for (int w : weights) {
            sum += w;
        }
        int r = random.nextInt(sum);
        for (int k = 0; k < weights.length; k++) {
            r -= weights[k];
            if (r < 0) {
                return k;
            }
        }
        return 0;
    }

    private static String text(int method, int[] a) {
        StringBuilder s = new StringBuilder(METHODS[method]).append('(');
        for (int k = 0; k < a.length; k++) {
            s.append(k == 0 ? "" : ", ").append(method == 0 && k == 2 ? String.valueOf(a[k] == 1) : "" + a[k]);
        }
        return s.append(')').toString();
    }

    // ---- arguments

    private int wild() {
        int[] some = {-100, -3, -2, -1, 0, 1, 2, 3, 4, 5, 6, 7, 8, 9, 10, 12, 31, 32, 40, 99, 100, 1023, 1024,
            Integer.MIN_VALUE, Integer.MAX_VALUE};
        return some[random.nextInt(some.length)];
    }

    private int version() {
        return random.nextInt(100) < newShare ? 1 : 0;
    }

    private int there(int version) {
        for (int k = 0; k < 20; k++) {
            int c = random.nextInt(10);
            if (reference.exists(version, c)) {
                return c;
            }
        }
        return 1;
    }

    private int type(int version) {
        return random.nextInt(3) == 0 ? -1 : random.nextInt(8) == 0 ? random.nextInt(10) : there(version);
    }

    private int member(int version) {
        int n = reference.members(version);
        return n == 0 ? 0 : random.nextInt(n);
    }

    private int methodMember(int version) {
        int m = member(version);
        for (int k = 0; k < 20; k++) {
            if (m < reference.members(version) && reference.memberInfo(version, m, 3) == 1
                    && reference.memberInfo(version, m, 1) % 2 == 0) {
                return m;
            }
            m = member(version);
        }
        return m;
    }

    private int interfaces(int version, int c) {
        int mask = 0;
        for (int k = 0; k < Math.min(c, 10); k++) {
            if (reference.exists(version, k) && reference.classInfo(version, k, 6) == 1 && random.nextInt(2) == 0) {
                mask |= 1 << k;
            }
        }
        return random.nextInt(20) == 0 ? mask | 1 << random.nextInt(12) : mask;
    }

    private int smallPlain(int version, int c) {
        int found = 0;
        for (int k = 0; k < 6; k++) {
            int s = random.nextInt(Math.max(1, Math.min(c, 10)));
            if (reference.exists(version, s) && reference.classInfo(version, s, 6) == 0) {
                found = s;
            }
        }
        return found;
    }

    private int interfaceOf(int version) {
        int c = there(version);
        for (int k = 0; k < 20 && reference.classInfo(version, c, 6) == 0; k++) {
            c = there(version);
        }
        return c;
    }

    /** The class or the base of a client, so that changes meet clients. */
    private int usedClass(int version) {
        if (reference.clients() == 0) {
            return there(version);
        }
        int c = reference.clientInfo(client(), random.nextBoolean() ? 1 : 4);
        return reference.exists(version, c) ? c : there(version);
    }

    private int client() {
        return reference.clients() == 0 ? 0 : random.nextInt(reference.clients());
    }

    private int name() {
        return random.nextInt(names);
    }

    private int access() {
        return random.nextInt(2) == 0 ? 3 : random.nextInt(4);
    }

    private int methodFlags(int version, int c) {
        boolean isAbstract = reference.exists(version, c) && reference.classInfo(version, c, 2) == 1;
        int r = random.nextInt(10);
        return isAbstract && r < 4 ? 4 : r < 7 ? 0 : r < 8 ? 1 : random.nextInt(8);
    }

    private int[] arguments(int method) {
        int[] a = new int[ARGUMENTS[method]];
        fill(METHODS[method], a);
        if (a.length > 0 && random.nextInt(25) == 0) {
            a[random.nextInt(a.length)] = wild();
        }
        return a;
    }

    private void fill(String method, int[] a) {
        int v = version();
        switch (method) {
            case "define" -> {
                int c = 1 + random.nextInt(9);
                put(a, v, c, random.nextInt(2), smallPlain(v, c), interfaces(v, c));
            }
            case "removeClass", "exists" -> put(a, v, random.nextInt(10));
            case "setClass" -> {
                int c = random.nextInt(3) == 0 ? usedClass(v) : there(v);
                int what = random.nextInt(6);
                int value = what <= 2 ? random.nextInt(2) : what == 3 ? random.nextInt(4)
                        : what == 4 ? smallPlain(v, c) : interfaces(v, c);
                put(a, v, c, what, what == 1 && random.nextInt(3) != 0 ? 0 : value);
                if (random.nextInt(4) == 0) {
                    put(a, v, c, 0, 1);
                }
            }
            case "classInfo" -> put(a, v, there(v), random.nextInt(10));
            case "draft" -> {
                int m = random.nextInt(3);
                put(a, random.nextInt(3) == 0 ? type(v) : -1, m, type(v), type(v));
                if (random.nextInt(2) == 0) {
                    putShapeOfMethod(a, v);
                }
            }
            case "addField" -> {
                int c = there(v);
                boolean isInterface = reference.classInfo(v, c, 6) == 1;
                put(a, v, c, name(), isInterface ? 3 : access(), isInterface ? 3 : random.nextInt(4));
            }
            case "addMethod" -> {
                int c = there(v);
                c = reference.exists(v, likeClass) && random.nextInt(3) == 0 ? likeClass : c;
                put(a, v, c, random.nextInt(3) == 0 ? likeName : name(),
                        reference.classInfo(v, c, 6) == 1 ? 3 : access(), methodFlags(v, c));
            }
            case "removeMember" -> put(a, v, member(v));
            case "setMember" -> {
                int m = member(v);
                int what = random.nextInt(3);
                put(a, v, m, what, what == 0 ? access() : what == 1 ? random.nextInt(8) : random.nextInt(12) - 3);
            }
            case "moveMember" -> put(a, v, member(v), there(v));
            case "members" -> put(a, v);
            case "memberInfo" -> put(a, v, member(v), random.nextInt(10));
            case "fits" -> put(a, v, type(v), type(v));
            case "field", "method" -> put(a, v, there(v), name());
            case "selected" -> put(a, v, methodMember(v), there(v));
            case "addClient" -> {
                int use = random.nextInt(3) == 0 ? 2 : random.nextInt(6);
                put(a, use, use == 5 ? interfaceOf(0) : there(0), name(), random.nextInt(4));
                if (use == 2 && random.nextInt(2) == 0) {
                    put(a, use, likeClass, likeName);
                }
                int m = member(0);
                if (use <= 2 && m < reference.members(0) && random.nextInt(2) == 0) {
                    a[2] = reference.memberInfo(0, m, 5);
                    a[1] = random.nextInt(3) == 0 ? a[1] : reference.memberInfo(0, m, 4);
                }
            }
            case "setBase" -> put(a, client(), there(0));
            case "removeClient", "verdict" -> put(a, client());
            case "clientInfo" -> put(a, client(), random.nextInt(10));
            case "compile", "link", "target" -> put(a, client(), v);
            case "count" -> put(a, random.nextInt(6));
            case "sample" -> put(a, 1 + random.nextInt(5), random.nextInt(4), random.nextInt(6));
            default -> { }
        }
    }

    /** Like a method that there is, or as a call of it: a parameter becomes another type that fits it. */
    private void putShapeOfMethod(int[] a, int v) {
        int m = methodMember(v);
        if (m >= reference.members(v) || reference.memberInfo(v, m, 3) == 0) {
            return;
        }
        likeName = reference.memberInfo(v, m, 5);
        likeClass = reference.memberInfo(v, m, 4);
        put(a, reference.memberInfo(v, m, 6), reference.memberInfo(v, m, 7), reference.memberInfo(v, m, 8),
                reference.memberInfo(v, m, 9));
        for (int k = 2; k <= 3; k++) {
            int other = there(v);
            if (a[k] >= 0 && random.nextInt(3) == 0 && reference.fits(v, other, a[k])) {
                a[k] = other;
            }
        }
    }

    private static void put(int[] a, int... values) {
        System.arraycopy(values, 0, a, 0, values.length);
    }

    // ---- calls

    private String answer(boolean byReference, int method, int[] a) {
        try {
            return byReference ? ofReference(method, a) : ofJudge(method, a);
        } catch (RuntimeException e) {
            return e.getClass().getSimpleName();
        }
    }

    private String ofJudge(int method, int[] a) {
        CompatibilityJudge x = judge;
        return "" + switch (METHODS[method]) {
            case "define" -> x.define(a[0], a[1], a[2] == 1, a[3], a[4]);
            case "removeClass" -> x.removeClass(a[0], a[1]);
            case "setClass" -> x.setClass(a[0], a[1], a[2], a[3]);
            case "exists" -> x.exists(a[0], a[1]) ? 1 : 0;
            case "classInfo" -> x.classInfo(a[0], a[1], a[2]);
            case "copyVersion" -> x.copyVersion();
            case "draft" -> x.draft(a[0], a[1], a[2], a[3]);
            case "addField" -> x.addField(a[0], a[1], a[2], a[3], a[4]);
            case "addMethod" -> x.addMethod(a[0], a[1], a[2], a[3], a[4]);
            case "removeMember" -> x.removeMember(a[0], a[1]);
            case "setMember" -> x.setMember(a[0], a[1], a[2], a[3]);
            case "moveMember" -> x.moveMember(a[0], a[1], a[2]);
            case "members" -> x.members(a[0]);
            case "memberInfo" -> x.memberInfo(a[0], a[1], a[2]);
            case "fits" -> x.fits(a[0], a[1], a[2]) ? 1 : 0;
            case "field" -> x.field(a[0], a[1], a[2]);
            case "method" -> x.method(a[0], a[1], a[2]);
            case "selected" -> x.selected(a[0], a[1], a[2]);
            case "addClient" -> x.addClient(a[0], a[1], a[2], a[3]);
            case "setBase" -> x.setBase(a[0], a[1]);
            case "removeClient" -> x.removeClient(a[0]);
            case "clients" -> x.clients();
            case "clientInfo" -> x.clientInfo(a[0], a[1]);
            case "compile" -> x.compile(a[0], a[1]);
            case "link" -> x.link(a[0], a[1]);
            case "target" -> x.target(a[0], a[1]);
            case "verdict" -> x.verdict(a[0]);
            case "count" -> x.count(a[0]);
            case "sample" -> x.sample(a[0], a[1], a[2]);
            case "undo" -> x.undo();
            default -> x.checksum();
        };
    }

    private String ofReference(int method, int[] a) {
        Reference x = reference;
        return "" + switch (METHODS[method]) {
            case "define" -> x.define(a[0], a[1], a[2] == 1, a[3], a[4]);
            case "removeClass" -> x.removeClass(a[0], a[1]);
            case "setClass" -> x.setClass(a[0], a[1], a[2], a[3]);
            case "exists" -> x.exists(a[0], a[1]) ? 1 : 0;
            case "classInfo" -> x.classInfo(a[0], a[1], a[2]);
            case "copyVersion" -> x.copyVersion();
            case "draft" -> x.draft(a[0], a[1], a[2], a[3]);
            case "addField" -> x.addField(a[0], a[1], a[2], a[3], a[4]);
            case "addMethod" -> x.addMethod(a[0], a[1], a[2], a[3], a[4]);
            case "removeMember" -> x.removeMember(a[0], a[1]);
            case "setMember" -> x.setMember(a[0], a[1], a[2], a[3]);
            case "moveMember" -> x.moveMember(a[0], a[1], a[2]);
            case "members" -> x.members(a[0]);
            case "memberInfo" -> x.memberInfo(a[0], a[1], a[2]);
            case "fits" -> x.fits(a[0], a[1], a[2]) ? 1 : 0;
            case "field" -> x.field(a[0], a[1], a[2]);
            case "method" -> x.method(a[0], a[1], a[2]);
            case "selected" -> x.selected(a[0], a[1], a[2]);
            case "addClient" -> x.addClient(a[0], a[1], a[2], a[3]);
            case "setBase" -> x.setBase(a[0], a[1]);
            case "removeClient" -> x.removeClient(a[0]);
            case "clients" -> x.clients();
            case "clientInfo" -> x.clientInfo(a[0], a[1]);
            case "compile" -> x.compile(a[0], a[1]);
            case "link" -> x.link(a[0], a[1]);
            case "target" -> x.target(a[0], a[1]);
            case "verdict" -> x.verdict(a[0]);
            case "count" -> x.count(a[0]);
            case "sample" -> x.sample(a[0], a[1], a[2]);
            case "undo" -> x.undo();
            default -> x.checksum();
        };
    }
}

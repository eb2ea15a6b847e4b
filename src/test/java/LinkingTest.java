/** Promises 26 to 30: linking, targets, verdicts, their counts and samples. */
public final class LinkingTest {
    private static final Due DUE = new Due("LinkingTest");

    public static void main(String[] args) {
        linkFields();
        linkConstants();
        linkCalls();
        linkAbstractCalls();
        linkOthers();
        linkImplementing();
        targets();
        verdicts();
        movedByOldVersion();
        counts();
        samples();
        sampleOrder();
        samplesRefused();
        DUE.end();
    }

    private static void linkFields() {
        CompatibilityJudge x = new CompatibilityJudge();
        x.addClient(0, 3, 0, 2);
        x.addClient(1, 3, 0, 2);
        DUE.is("reads", x.link(3, 1), 0);
        DUE.is("writes", x.link(4, 1), 0);
        x.setMember(1, 0, 1, 2);
        DUE.is("reads a final field", x.link(3, 1), 0);
        DUE.is("writes a final field", x.link(4, 1), 2);
        x.setMember(1, 0, 1, 3);
        DUE.is("reads a static field", x.link(3, 1), 5);
        DUE.is("writes a static final field", x.link(4, 1), 5);
        x.setMember(1, 0, 0, 2);
        DUE.is("reads a closed static field", x.link(3, 1), 2);
        x.removeMember(1, 0);
        DUE.is("reads no field", x.link(3, 1), 3);
        x.draft(4, 0, 0, 0);
        x.addField(1, 3, 0, 3, 0);
        DUE.is("reads a field of another type", x.link(3, 1), 3);
        x.setClass(1, 3, 0, 0);
        DUE.is("class not open", x.link(3, 1), 2);
        x.removeClass(1, 3);
        DUE.is("no class", x.link(3, 1), 1);
        DUE.is("version 0", x.link(3, 0), 0);
    }

    private static void linkConstants() {
        CompatibilityJudge x = new CompatibilityJudge();
        x.removeClass(1, 3);
        DUE.is("a constant needs no class", x.link(0, 1), 0);
        DUE.is("and has no target", x.target(0, 1), -2);
        DUE.is("nor one in version 0", x.target(0, 0), -2);
        DUE.is("but does not compile", x.verdict(0), 3);
    }

    private static void linkCalls() {
        CompatibilityJudge x = new CompatibilityJudge();
        x.setMember(1, 6, 1, 1);
        x.draft(-1, 0, 0, 0);
        x.addClient(2, 3, 0, 2);
        DUE.is("static now", x.link(3, 1), 5);
        x.setMember(1, 6, 0, 1);
        DUE.is("static and closed", x.link(3, 1), 2);
        x.setMember(1, 6, 0, 0);
        DUE.is("static and private", x.link(3, 1), 2);
        x.removeMember(1, 6);
        DUE.is("the superclass's", x.link(3, 1), 0);
        DUE.is("its target", x.target(3, 1), 1);
        x.removeMember(1, 2);
        DUE.is("none", x.link(3, 1), 4);
        x.draft(0, 0, 0, 0);
        x.addMethod(1, 3, 0, 3, 0);
        DUE.is("another result", x.link(3, 1), 4);
        x.setClass(1, 3, 0, 0);
        DUE.is("class not open", x.link(3, 1), 2);
        x.removeClass(1, 3);
        DUE.is("no class", x.link(3, 1), 1);
        x.define(1, 3, true, 0, 0);
        x.setClass(1, 3, 0, 1);
        DUE.is("an interface now, without the method", x.link(3, 1), 5);
        // The other way round.
        CompatibilityJudge y = new CompatibilityJudge();
        y.draft(1, 0, 0, 0);
        y.addClient(2, 2, 2, 2);
        DUE.is("an interface's method", y.link(3, 1), 0);
        y.removeClass(1, 3);
        y.removeClass(1, 2);
        y.define(1, 2, false, 0, 0);
        y.setClass(1, 2, 0, 1);
        DUE.is("a plain class now", y.link(3, 1), 5);
    }

    private static void linkAbstractCalls() {
        CompatibilityJudge x = new CompatibilityJudge();
        // Client 1 calls method 2 of class 3, which implements interface 2.
        x.removeMember(1, 5);
        DUE.is("only the interface's abstract method", x.link(1, 1), 6);
        DUE.is("no target then", x.target(1, 1), -2);
        x.setClass(1, 3, 2, 1);
        DUE.is("an abstract class may lack it", x.link(1, 1), 0);
        DUE.is("the interface's method", x.target(1, 1), 2);
        x.setMember(1, 4, 1, 0);
        x.setClass(1, 3, 2, 0);
        DUE.is("a default method", x.link(1, 1), 0);
        x.setMember(1, 4, 1, 4);
        x.setClass(1, 1, 2, 1);
        x.draft(1, 0, 0, 0);
        x.addMethod(1, 1, 2, 3, 4);
        DUE.is("an abstract method of the superclass", x.link(1, 1), 6);
        x.setMember(1, 7, 1, 0);
        DUE.is("a method of the superclass", x.link(1, 1), 0);
        DUE.is("its target", x.target(1, 1), 1);
        // The method that is found may be abstract where another one is selected.
        CompatibilityJudge y = new CompatibilityJudge();
        y.draft(1, 0, 0, 0);
        y.removeMember(1, 5);
        y.setClass(1, 3, 2, 1);
        y.addMethod(1, 3, 2, 3, 4);
        DUE.is("an abstract class's abstract method", y.link(1, 1), 0);
        DUE.is("its target", y.target(1, 1), 3);
    }

    private static void linkOthers() {
        CompatibilityJudge x = new CompatibilityJudge();
        x.addClient(3, 3, 0, 2);
        x.addClient(4, 3, 0, 2);
        DUE.is("creates", x.link(3, 1), 0);
        DUE.is("extends", x.link(4, 1), 0);
        DUE.is("creates has no target", x.target(3, 1), -2);
        DUE.is("extends has no target", x.target(4, 1), -2);
        x.setClass(1, 3, 2, 1);
        DUE.is("creates an abstract class", x.link(3, 1), 7);
        DUE.is("extends an abstract class", x.link(4, 1), 0);
        x.removeMember(1, 5);
        DUE.is("extends an incomplete class", x.link(4, 1), 6);
        x.setClass(1, 3, 1, 1);
        DUE.is("extends a final class", x.link(4, 1), 5);
        x.setClass(1, 3, 0, 0);
        DUE.is("creates, not open", x.link(3, 1), 2);
        DUE.is("extends, not open", x.link(4, 1), 2);
        x.removeClass(1, 3);
        DUE.is("creates no class", x.link(3, 1), 1);
        DUE.is("extends no class", x.link(4, 1), 1);
        x.define(1, 3, true, 0, 0);
        x.setClass(1, 3, 0, 1);
        DUE.is("creates an interface", x.link(3, 1), 7);
        DUE.is("extends an interface", x.link(4, 1), 5);
        DUE.bounds(x, "link(5, 0)", () -> x.link(5, 0));
        DUE.bounds(x, "link(-1, 0)", () -> x.link(-1, 0));
        DUE.bounds(x, "link(0, 2)", () -> x.link(0, 2));
        DUE.bounds(x, "target(5, 0)", () -> x.target(5, 0));
        DUE.bounds(x, "target(-1, 0)", () -> x.target(-1, 0));
        DUE.bounds(x, "target(0, -1)", () -> x.target(0, -1));
    }

    private static void linkImplementing() {
        CompatibilityJudge x = new CompatibilityJudge();
        x.define(0, 5, false, 3, 0);
        x.setClass(0, 5, 0, 1);
        x.setMember(0, 4, 1, 0);
        x.addClient(5, 2, 0, 2);
        x.setBase(3, 5);
        x.copyVersion();
        DUE.is("implements", x.link(3, 1), 0);
        DUE.is("no target", x.target(3, 1), -2);
        x.draft(-1, 0, 0, 0);
        x.addMethod(1, 2, 7, 3, 4);
        DUE.is("lacks a method", x.link(3, 1), 6);
        DUE.is("verdict", x.verdict(3), 2);
        x.setClass(1, 5, 1, 1);
        DUE.is("a final base", x.link(3, 1), 5);
        x.setClass(1, 5, 0, 0);
        DUE.is("a closed final base", x.link(3, 1), 2);
        x.setClass(1, 5, 3, 2);
        DUE.is("a final base of the package", x.link(3, 1), 5);
        x.removeClass(1, 5);
        DUE.is("no base", x.link(3, 1), 1);
        x.define(1, 5, true, 0, 0);
        x.setClass(1, 5, 0, 1);
        DUE.is("an interface as base", x.link(3, 1), 5);
        x.removeClass(1, 5);
        x.removeClass(1, 3);
        x.removeClass(1, 2);
        DUE.is("no interface", x.link(3, 1), 1);
        x.define(1, 2, false, 0, 0);
        DUE.is("a closed plain class", x.link(3, 1), 2);
        x.setClass(1, 2, 0, 1);
        DUE.is("a plain class, and no base", x.link(3, 1), 5);
    }

    private static void targets() {
        CompatibilityJudge x = new CompatibilityJudge();
        x.addClient(0, 4, 0, 2);
        x.addClient(1, 3, 0, 2);
        DUE.is("the field's class", x.target(3, 1), 1);
        DUE.is("the field's class", x.target(4, 1), 1);
        x.moveMember(1, 0, 4);
        DUE.is("the field moved", x.target(3, 1), 4);
        DUE.is("no field", x.target(4, 1), -2);
        DUE.is("the old version", x.target(4, 0), 1);
        DUE.is("the method's class", x.target(2, 0), 1);
        x.setClass(1, 4, 0, 0);
        DUE.is("an error", x.target(2, 1), -2);
    }

    private static void verdicts() {
        CompatibilityJudge x = new CompatibilityJudge();
        DUE.bounds(x, "verdict(3)", () -> x.verdict(3));
        DUE.bounds(x, "verdict(-1)", () -> x.verdict(-1));
        x.addClient(0, 3, 0, 2);
        for (int k = 0; k < 4; k++) {
            DUE.is("verdict at first", x.verdict(k), 0);
        }
        x.setMember(1, 1, 2, 8);
        DUE.is("another constant", x.verdict(0), 4);
        x.setMember(1, 1, 2, -2);
        DUE.is("no constant", x.verdict(0), 4);
        x.setMember(1, 1, 0, 0);
        DUE.is("a private constant", x.verdict(0), 3);
        x.moveMember(1, 6, 4);
        DUE.is("moved", x.verdict(2), 5);
        x.setMember(1, 6, 1, 2);
        DUE.is("final does not matter to a call", x.verdict(2), 5);
        x.setMember(1, 6, 1, 1);
        DUE.is("static", x.verdict(2), 1);
        x.setMember(1, 5, 0, 2);
        DUE.is("not open", x.verdict(1), 1);
        x.removeMember(1, 5);
        DUE.is("abstract", x.verdict(1), 2);
        // A field of another type in between: links, but compiles to something else.
        x.draft(4, 0, 0, 0);
        x.addField(1, 3, 0, 3, 0);
        DUE.is("silent", x.verdict(3), 4);
        x.setMember(1, 7, 0, 1);
        DUE.is("compiling", x.verdict(3), 3);
        // A field that becomes a constant.
        CompatibilityJudge y = new CompatibilityJudge();
        y.setMember(0, 1, 2, -2);
        y.addClient(0, 3, 1, 2);
        DUE.is("a constant now", y.verdict(3), 4);
        y.setMember(1, 1, 2, -2);
        DUE.is("no constant there either", y.verdict(3), 0);
        // A better method for the arguments.
        y.draft(-1, 1, 3, 0);
        y.addClient(2, 4, 1, 2);
        y.copyVersion();
        y.draft(4, 1, 3, 0);
        y.removeMember(1, 7);
        y.addMethod(1, 4, 1, 3, 0);
        DUE.is("another result", y.verdict(4), 1);
        y.setMember(1, 3, 0, 3);
        DUE.is("another result, and a method above", y.verdict(4), 1);
        y.copyVersion();
        y.setMember(1, 3, 0, 3);
        DUE.is("a worse method more", y.verdict(4), 0);
        y.draft(-1, 1, 1, 0);
        y.setMember(0, 3, 0, 3);
        y.addClient(2, 4, 1, 2);
        DUE.is("calls with a 1", y.verdict(5), 0);
        y.draft(-1, 1, 0, 0);
        y.addMethod(1, 4, 1, 3, 0);
        DUE.is("a still worse method", y.verdict(5), 0);
    }

    private static void movedByOldVersion() {
        CompatibilityJudge x = new CompatibilityJudge();
        // The kept symbol goes on; only the old version loses the method.
        x.removeMember(0, 5);
        DUE.is("link with version 0", x.link(1, 0), 6);
        DUE.is("linking with version 0 gives an error now", x.verdict(1), 5);
        x.addClient(3, 3, 0, 2);
        x.setClass(0, 3, 2, 1);
        DUE.is("creating in version 0 gives an error now", x.verdict(3), 5);
        DUE.is("target in version 0", x.target(1, 0), 2);
        DUE.is("another target", x.verdict(1), 5);
        x.setMember(0, 1, 2, 50);
        DUE.is("the constant that is kept counts", x.verdict(0), 0);
    }

    private static void counts() {
        CompatibilityJudge x = new CompatibilityJudge();
        x.addClient(3, 3, 0, 2);
        x.addClient(0, 3, 0, 2);
        DUE.is("count(0)", x.count(0), 5);
        x.setClass(1, 3, 0, 0);
        int[] due = {1, 3, 0, 1, 0, 0};
        for (int k = 0; k <= 5; k++) {
            DUE.is("count(" + k + ")", x.count(k), due[k]);
        }
        x.undo();
        x.setMember(1, 1, 2, 1);
        x.setClass(1, 4, 4, 3);
        x.removeMember(1, 5);
        int[] then = {2, 0, 1, 0, 1, 1};
        for (int k = 0; k <= 5; k++) {
            DUE.is("count(" + k + ") then", x.count(k), then[k]);
        }
        DUE.argument(x, "count(6)", () -> x.count(6));
        DUE.argument(x, "count(-1)", () -> x.count(-1));
    }

    private static void sampleRow(CompatibilityJudge x, int verdict, int pack, int... row) {
        for (int what = 0; what <= 5; what++) {
            DUE.is("sample(" + verdict + ", " + pack + ", " + what + ")", x.sample(verdict, pack, what), row[what]);
        }
    }

    private static void samples() {
        CompatibilityJudge x = new CompatibilityJudge();
        for (int verdict = 1; verdict <= 5; verdict++) {
            sampleRow(x, verdict, 0, -2, -2, -2, -2, -2, -2);
        }
        long before = x.checksum();
        x.removeMember(1, 0);
        sampleRow(x, 1, 0, 0, 1, 0, -2, -2, -2);
        x.undo();
        DUE.is("nothing changes", x.checksum(), before);
        x.setMember(1, 0, 1, 2);
        sampleRow(x, 1, 0, 1, 1, 0, -2, -2, -2);
        x.undo();
        x.removeMember(1, 7);
        // In package 0 the protected method of class 1 takes its place; the call links no more.
        sampleRow(x, 1, 0, 2, 4, 1, 1, 3, -2);
        sampleRow(x, 1, 2, 2, 4, 1, 1, 3, -2);
        x.undo();
        x.setMember(1, 3, 0, 0);
        sampleRow(x, 1, 0, 2, 1, 1, 1, 1, -2);
        sampleRow(x, 1, 2, -2, -2, -2, -2, -2, -2);
        x.undo();
        x.setClass(1, 1, 2, 1);
        sampleRow(x, 1, 3, 3, 1, -2, -2, -2, -2);
        x.undo();
        x.removeMember(1, 5);
        sampleRow(x, 2, 0, 2, 3, 2, 0, -2, -2);
        // With package access the method is not open to package 1, but still makes class 3 complete.
        x.setMember(0, 5, 0, 1);
        sampleRow(x, 2, 1, 4, 3, -2, -2, -2, -2);
        CompatibilityJudge y = new CompatibilityJudge();
        y.setMember(0, 4, 1, 0);
        y.removeClass(1, 3);
        y.removeClass(0, 3);
        // Reads and calls of the interface stay, but it can't be implemented without the method.
        sampleRow(y, 2, 0, 5, 2, -2, -2, -2, -2);
    }

    private static void sampleOrder() {
        CompatibilityJudge x = new CompatibilityJudge();
        // A call with two arguments; the first fitting pair in order is taken.
        x.draft(-1, 2, 1, 0);
        x.addMethod(0, 1, 7, 3, 0);
        sampleRow(x, 1, 3, 2, 1, 7, 2, 1, 0);
        x.draft(-1, 1, -1, 0);
        x.addMethod(0, 4, 6, 3, 0);
        sampleRow(x, 1, 3, 2, 1, 7, 2, 1, 0);
        x.addMethod(0, 1, 7, 3, 0);
        sampleRow(x, 1, 3, 2, 1, 7, 1, -1, -2);
        x.draft(-1, 2, -1, -1);
        x.addMethod(0, 1, 7, 3, 0);
        x.removeMember(0, 10);
        sampleRow(x, 1, 3, 2, 1, 7, 2, -1, -1);
        x.draft(-1, 0, 0, 0);
        x.addMethod(0, 1, 7, 3, 0);
        sampleRow(x, 1, 3, 2, 1, 7, 0, -2, -2);
        x.draft(9, 1, 9, 0);
        x.addMethod(0, 1, 3, 3, 0);
        sampleRow(x, 1, 3, 2, 1, 3, 1, 9, -2);
        // A silent change for one argument type alone.
        CompatibilityJudge y = new CompatibilityJudge();
        y.setMember(0, 3, 0, 3);
        y.copyVersion();
        y.removeMember(0, 7);
        sampleRow(y, 4, 3, 2, 4, 1, 1, 3, -2);
        y.addField(0, 4, 7, 3, 0);
        y.draft(4, 0, 0, 0);
        y.addField(1, 4, 7, 3, 0);
        sampleRow(y, 1, 3, 0, 4, 7, -2, -2, -2);
        y.draft(-1, 0, 0, 0);
        y.addField(1, 1, 7, 3, 0);
        sampleRow(y, 4, 3, 0, 4, 7, -2, -2, -2);
        sampleRow(y, 1, 3, -2, -2, -2, -2, -2, -2);
        y.setMember(1, 7 + 1, 0, 1);
        sampleRow(y, 3, 3, 0, 4, 7, -2, -2, -2);
        sampleRow(y, 3, 1, -2, -2, -2, -2, -2, -2);
        // A client that compiles but does not link with the old version has moved: a private method in between.
        CompatibilityJudge z = new CompatibilityJudge();
        z.setMember(0, 6, 0, 0);
        z.copyVersion();
        z.setMember(1, 6, 0, 3);
        sampleRow(z, 5, 3, 2, 3, 0, 0, -2, -2);
    }

    private static void samplesRefused() {
        CompatibilityJudge x = new CompatibilityJudge();
        DUE.argument(x, "sample, verdict 0", () -> x.sample(0, 0, 0));
        DUE.argument(x, "sample, verdict 6", () -> x.sample(6, 0, 0));
        DUE.argument(x, "sample, package -1", () -> x.sample(1, -1, 0));
        DUE.argument(x, "sample, package 4", () -> x.sample(1, 4, 0));
        DUE.argument(x, "sample, what -1", () -> x.sample(1, 0, -1));
        DUE.argument(x, "sample, what 6", () -> x.sample(1, 0, 6));
    }
}

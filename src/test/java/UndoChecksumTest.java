import java.util.ArrayList;
import java.util.List;

/** Promises 31 and 32: undo and the checksum. */
public final class UndoChecksumTest {
    private static final Due DUE = new Due("UndoChecksumTest");

    public static void main(String[] args) {
        undoOfEachMethod();
        fiveStates();
        undoRestoresAll();
        questionsSaveNothing();
        checksum();
        checksumOfDraftAndSaved();
        DUE.end();
    }

    private static long sumOf(CompatibilityJudge x) {
        List<Integer> numbers = new ArrayList<>();
        for (int version = 0; version <= 1; version++) {
            for (int c = 0; c <= 9; c++) {
                if (!x.exists(version, c)) {
                    numbers.add(-3);
                    continue;
                }
                for (int what = 0; what <= 9; what++) {
                    numbers.add(x.classInfo(version, c, what));
                }
            }
            numbers.add(x.members(version));
            for (int m = 0; m < x.members(version); m++) {
                for (int what = 0; what <= 9; what++) {
                    numbers.add(x.memberInfo(version, m, what));
                }
            }
        }
        numbers.add(x.clients());
        for (int k = 0; k < x.clients(); k++) {
            for (int what = 0; what <= 9; what++) {
                numbers.add(x.clientInfo(k, what));
            }
            numbers.addAll(List.of(x.compile(k, 0), x.compile(k, 1), x.link(k, 0), x.link(k, 1), x.target(k, 0),
                    x.target(k, 1), x.verdict(k)));
        }
        long h = 17317;
        for (int v : numbers) {
            h = 31 * h + v;
        }
        return h;
    }

    private static long sumOf(CompatibilityJudge x, int result, int many, int saved) {
        return ((sumOf(x) * 31 + result) * 31 + many) * 31 + saved;
    }

    private static void undone(CompatibilityJudge x, String call, Due.Call it) {
        long before = x.checksum();
        it.answer();
        DUE.is(call + " saves a state", x.undo(), 0);
        DUE.is("undo of " + call, x.checksum(), before);
        DUE.state(x, "undo behind the undo of " + call, x::undo);
    }

    private static void undoOfEachMethod() {
        CompatibilityJudge x = new CompatibilityJudge();
        undone(x, "define", () -> x.define(1, 5, false, 1, 4));
        undone(x, "removeClass", () -> x.removeClass(0, 3));
        for (int what = 0; what <= 5; what++) {
            int w = what;
            undone(x, "setClass " + w, () -> x.setClass(1, 4, w, w == 5 ? 4 : w == 3 ? 3 : w == 4 ? 3 : 0));
        }
        undone(x, "copyVersion", x::copyVersion);
        undone(x, "addField", () -> x.addField(0, 4, 0, 3, 0));
        undone(x, "addMethod", () -> x.addMethod(1, 4, 0, 3, 0));
        undone(x, "removeMember", () -> x.removeMember(1, 1));
        undone(x, "setMember 0", () -> x.setMember(0, 0, 0, 0));
        undone(x, "setMember 1", () -> x.setMember(0, 1, 1, 0));
        undone(x, "setMember 2", () -> x.setMember(0, 1, 2, 0));
        undone(x, "setMember without a change", () -> x.setMember(0, 1, 2, 7));
        undone(x, "moveMember", () -> x.moveMember(1, 0, 4));
        undone(x, "addClient", () -> x.addClient(3, 1, 0, 0));
        undone(x, "setBase", () -> x.setBase(1, 4));
        undone(x, "setBase without a change", () -> x.setBase(1, 0));
        undone(x, "removeClient", () -> x.removeClient(1));
    }

    private static void fiveStates() {
        CompatibilityJudge x = new CompatibilityJudge();
        long[] sums = new long[9];
        for (int k = 0; k < 9; k++) {
            sums[k] = sumOf(x);
            x.setMember(0, 1, 2, 20 + k);
        }
        for (int left = 4; left >= 0; left--) {
            DUE.is("undo", x.undo(), left);
            DUE.is("the state", sumOf(x), sums[4 + left]);
        }
        DUE.is("the constant", x.memberInfo(0, 1, 2), 23);
        DUE.state(x, "undo, none saved", x::undo);
        x.setMember(0, 1, 2, 50);
        x.setMember(0, 1, 2, 51);
        DUE.is("undo", x.undo(), 1);
        x.setMember(0, 1, 2, 52);
        DUE.is("undo", x.undo(), 1);
        DUE.is("undo", x.undo(), 0);
        DUE.is("the constant", x.memberInfo(0, 1, 2), 23);
    }

    private static void undoRestoresAll() {
        CompatibilityJudge x = new CompatibilityJudge();
        long first = sumOf(x);
        x.draft(4, 2, 3, 1);
        x.removeClient(1);
        x.copyVersion();
        x.removeClass(0, 3);
        x.removeClass(0, 4);
        x.removeMember(1, 0);
        for (int k = 0; k < 5; k++) {
            x.undo();
        }
        DUE.is("all as at first", sumOf(x), first);
        // Only the draft is as it was before the undo.
        DUE.is("checksum with the draft", x.checksum(), sumOf(x, 4, 2, 0));
        // A state that comes back does not hang on what later calls change.
        x.setBase(1, 1);
        x.undo();
        x.setBase(1, 4);
        x.setBase(1, 3);
        x.undo();
        DUE.is("base", x.clientInfo(1, 4), 4);
        x.undo();
        DUE.is("base", x.clientInfo(1, 4), 0);
    }

    private static void questionsSaveNothing() {
        CompatibilityJudge x = new CompatibilityJudge();
        long before = x.checksum();
        x.exists(0, 1);
        x.classInfo(0, 1, 9);
        x.draft(-1, 0, 0, 0);
        x.members(0);
        x.memberInfo(0, 1, 1);
        x.fits(0, 1, 1);
        x.field(0, 1, 1);
        x.method(0, 1, 1);
        x.selected(0, 2, 1);
        x.clients();
        x.clientInfo(0, 0);
        x.compile(0, 1);
        x.link(0, 1);
        x.target(0, 1);
        x.verdict(0);
        x.count(0);
        x.sample(1, 0, 0);
        DUE.is("checksum", x.checksum(), before);
        DUE.state(x, "undo", x::undo);
    }

    private static void checksum() {
        CompatibilityJudge x = new CompatibilityJudge();
        DUE.is("checksum at first", x.checksum(), -6015417857791309854L);
        DUE.is("checksum from the answers", x.checksum(), sumOf(x, -1, 0, 0));
        x.define(0, 9, true, 0, 4);
        x.setClass(1, 4, 4, 3);
        x.removeMember(1, 5);
        x.setMember(1, 1, 2, -99);
        x.addClient(4, 3, 0, 1);
        x.setBase(0, 1);
        x.setBase(2, 3);
        DUE.is("checksum from the answers", x.checksum(), sumOf(x, -1, 0, 5));
    }

    private static void checksumOfDraftAndSaved() {
        CompatibilityJudge x = new CompatibilityJudge();
        for (int result = -1; result <= 9; result++) {
            x.draft(result, (result + 1) % 3, 9, 9);
            DUE.is("checksum with the draft", x.checksum(), sumOf(x, result, (result + 1) % 3, 0));
        }
        x.draft(-1, 1, 4, 4);
        long before = x.checksum();
        x.draft(-1, 1, 5, 5);
        DUE.is("the parameter types do not count", x.checksum(), before);
        for (int k = 1; k <= 7; k++) {
            x.copyVersion();
            DUE.is("checksum with the states", x.checksum(), sumOf(x, -1, 1, Math.min(k, 5)));
        }
    }
}

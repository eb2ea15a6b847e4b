/** Promises 1 to 7: the new object, and the calls about classes. */
public final class ClassesTest {
    private static final Due DUE = new Due("ClassesTest");

    public static void main(String[] args) {
        newObject();
        define();
        defineRefused();
        removeClass();
        setClass();
        setClassRefused();
        setClassOfClassZero();
        exists();
        classInfo();
        incompleteClasses();
        copyVersion();
        DUE.end();
    }

    private static void classRow(CompatibilityJudge x, int version, int c, int... row) {
        for (int what = 0; what < row.length; what++) {
            DUE.is("classInfo(" + version + ", " + c + ", " + what + ")", x.classInfo(version, c, what), row[what]);
        }
    }

    private static void memberRow(CompatibilityJudge x, int version, int m, int... row) {
        for (int what = 0; what < row.length; what++) {
            DUE.is("memberInfo(" + version + ", " + m + ", " + what + ")", x.memberInfo(version, m, what), row[what]);
        }
    }

    private static void newObject() {
        CompatibilityJudge x = new CompatibilityJudge();
        DUE.is("NONE", CompatibilityJudge.NONE, -2);
        DUE.is("INT", CompatibilityJudge.INT, -1);
        for (int v = 0; v <= 1; v++) {
            classRow(x, v, 0, 1, 0, 0, 0, -2, 0, 0, 0, 1, 0);
            classRow(x, v, 1, 1, 0, 0, 0, 0, 0, 0, 4, 3, 0);
            classRow(x, v, 2, 1, 0, 1, 0, 0, 0, 1, 1, 5, 1);
            classRow(x, v, 3, 1, 0, 0, 0, 1, 4, 0, 2, 15, 0);
            classRow(x, v, 4, 1, 0, 1, 1, 1, 0, 0, 1, 19, 0);
            for (int c = 5; c <= 9; c++) {
                DUE.is("exists(" + v + ", " + c + ")", x.exists(v, c), false);
            }
            DUE.is("members(" + v + ")", x.members(v), 8);
            memberRow(x, v, 0, 3, 0, -2, 0, 1, 0, -1, -2, -2, -2);
            memberRow(x, v, 1, 3, 3, 7, 0, 1, 1, -1, -2, -2, -2);
            memberRow(x, v, 2, 3, 0, -2, 1, 1, 0, -1, 0, -2, -2);
            memberRow(x, v, 3, 2, 0, -2, 1, 1, 1, -1, 1, 1, -2);
            memberRow(x, v, 4, 3, 4, -2, 1, 2, 2, 1, 0, -2, -2);
            memberRow(x, v, 5, 3, 0, -2, 1, 3, 2, 1, 0, -2, -2);
            memberRow(x, v, 6, 3, 0, -2, 1, 3, 0, -1, 0, -2, -2);
            memberRow(x, v, 7, 3, 0, -2, 1, 4, 1, -1, 1, 3, -2);
        }
        DUE.is("clients()", x.clients(), 3);
        int[][] clients = {{0, 3, 1, 2, 0, -2, 1, 7, -2, -2}, {2, 3, 2, 2, 0, 0, 0, -2, 1, 0},
            {2, 4, 0, 2, 0, 0, 0, -2, -1, 0}};
        for (int k = 0; k < 3; k++) {
            for (int what = 0; what <= 9; what++) {
                DUE.is("clientInfo(" + k + ", " + what + ")", x.clientInfo(k, what), clients[k][what]);
            }
        }
        DUE.is("draft() before", x.draft(-1, 0, 0, 0), 0);
        DUE.state(x, "undo() at first", x::undo);
    }

    private static void define() {
        CompatibilityJudge x = new CompatibilityJudge();
        DUE.is("define a plain class", x.define(0, 5, false, 3, 4), 6);
        classRow(x, 0, 5, 0, 0, 0, 0, 3, 4, 0, 0, 47, 0);
        DUE.is("exists(1, 5)", x.exists(1, 5), false);
        DUE.is("define an interface", x.define(0, 9, true, 77, 4), 7);
        classRow(x, 0, 9, 0, 0, 1, 0, 0, 4, 1, 0, 517, 1);
        DUE.is("define in the new version", x.define(1, 6, false, 0, 0), 6);
        DUE.is("undo", x.undo(), 2);
        DUE.is("exists(1, 6)", x.exists(1, 6), false);
        // A class that was removed comes back without what it was before.
        x.setClass(0, 5, 0, 1);
        x.setClass(0, 5, 1, 1);
        x.setClass(0, 5, 2, 1);
        x.setClass(0, 5, 3, 2);
        x.removeClass(0, 5);
        DUE.is("define again", x.define(0, 5, false, 0, 0), 7);
        classRow(x, 0, 5, 0, 0, 0, 0, 0, 0, 0, 0, 33, 0);
    }

    private static void defineRefused() {
        CompatibilityJudge x = new CompatibilityJudge();
        DUE.bounds(x, "define, version 2", () -> x.define(2, 5, false, 0, 0));
        DUE.bounds(x, "define, version -1", () -> x.define(-1, 5, false, 9, 0));
        DUE.bounds(x, "define, class 0", () -> x.define(0, 0, false, 0, 0));
        DUE.bounds(x, "define, class 10", () -> x.define(0, 10, true, 0, 0));
        DUE.argument(x, "define, superclass -2", () -> x.define(0, 5, false, -2, 0));
        DUE.argument(x, "define, superclass is no class", () -> x.define(0, 7, false, 6, 0));
        DUE.argument(x, "define, superclass is itself", () -> x.define(0, 5, false, 5, 0));
        DUE.argument(x, "define, superclass 10", () -> x.define(0, 5, false, 10, 0));
        DUE.argument(x, "define, superclass is an interface", () -> x.define(0, 5, false, 2, 0));
        x.setClass(0, 3, 1, 1);
        DUE.argument(x, "define, superclass is final", () -> x.define(0, 5, false, 3, 0));
        DUE.argument(x, "define, interface 0", () -> x.define(0, 5, false, 0, 1));
        DUE.argument(x, "define, interface is a plain class", () -> x.define(0, 5, true, 0, 8));
        DUE.argument(x, "define, interface does not exist", () -> x.define(0, 7, true, 0, 64));
        DUE.argument(x, "define, interface is itself", () -> x.define(0, 5, true, 0, 32));
        DUE.argument(x, "define, interface 31", () -> x.define(0, 5, true, 0, Integer.MIN_VALUE | 4));
        DUE.argument(x, "define, existing, and a wrong superclass", () -> x.define(0, 4, false, 2, 0));
        DUE.argument(x, "define, interface is greater", () -> x.define(0, 1, false, 0, 4));
        x.define(0, 8, false, 1, 0);
        DUE.argument(x, "define, superclass is greater", () -> x.define(0, 7, false, 8, 0));
        DUE.state(x, "define, existing", () -> x.define(0, 4, false, 1, 4));
        DUE.state(x, "define, existing interface", () -> x.define(1, 2, true, 0, 0));
    }

    private static void removeClass() {
        CompatibilityJudge x = new CompatibilityJudge();
        DUE.bounds(x, "removeClass, version 2", () -> x.removeClass(2, 3));
        DUE.bounds(x, "removeClass, no class", () -> x.removeClass(0, 5));
        DUE.bounds(x, "removeClass, class -1", () -> x.removeClass(0, -1));
        DUE.bounds(x, "removeClass, class 10", () -> x.removeClass(0, 10));
        DUE.state(x, "removeClass, class 0", () -> x.removeClass(0, 0));
        DUE.state(x, "removeClass, a superclass", () -> x.removeClass(0, 1));
        DUE.state(x, "removeClass, a superinterface", () -> x.removeClass(0, 2));
        DUE.is("removeClass(0, 3)", x.removeClass(0, 3), 2);
        DUE.is("exists(0, 3)", x.exists(0, 3), false);
        DUE.is("exists(1, 3)", x.exists(1, 3), true);
        DUE.is("members(0)", x.members(0), 6);
        memberRow(x, 0, 5, 3, 0, -2, 1, 4, 1, -1, 1, 3, -2);
        DUE.is("removeClass(0, 2)", x.removeClass(0, 2), 1);
        memberRow(x, 0, 4, 3, 0, -2, 1, 4, 1, -1, 1, 3, -2);
        DUE.is("undo", x.undo(), 1);
        DUE.is("undo", x.undo(), 0);
        DUE.is("members(0)", x.members(0), 8);
        DUE.is("checksum", x.checksum(), new CompatibilityJudge().checksum());
        // Class 0 is the superclass of interfaces too, but an interface is nobody's superclass.
        x.define(0, 5, true, 2, 0);
        DUE.is("removeClass without members", x.removeClass(0, 5), 0);
    }

    private static void setClass() {
        CompatibilityJudge x = new CompatibilityJudge();
        int[][] changes = {{3, 0, 0, 1}, {3, 0, 1, 0}, {3, 1, 1, 0}, {3, 1, 0, 1}, {3, 2, 1, 0}, {3, 2, 0, 1},
            {3, 3, 3, 0}, {3, 3, 0, 3}, {3, 4, 0, 1}, {3, 4, 1, 0}, {3, 5, 0, 4}, {3, 5, 4, 0}, {2, 0, 0, 1},
            {2, 3, 2, 0}, {2, 5, 0, 0}, {4, 2, 0, 1}, {4, 5, 4, 0}, {4, 4, 3, 1}, {1, 1, 0, 0}};
        for (int[] a : changes) {
            String call = "setClass(1, " + a[0] + ", " + a[1] + ", " + a[2] + ")";
            DUE.is(call, x.setClass(1, a[0], a[1], a[2]), a[3]);
            DUE.is("classInfo behind " + call, x.classInfo(1, a[0], a[1]), a[2]);
        }
        classRow(x, 1, 4, 1, 0, 0, 1, 3, 4, 0, 1, 31, 0);
        classRow(x, 0, 4, 1, 0, 1, 1, 1, 0, 0, 1, 19, 0);
        // Supertypes of subclasses change too.
        x.setClass(1, 3, 5, 0);
        DUE.is("supertypes of 4", x.classInfo(1, 4, 8), 31);
        x.setClass(1, 4, 5, 0);
        DUE.is("supertypes of 4", x.classInfo(1, 4, 8), 27);
        x.setClass(1, 3, 4, 0);
        DUE.is("supertypes of 4", x.classInfo(1, 4, 8), 25);
        DUE.is("undo", x.undo(), 4);
        DUE.is("supertypes of 4", x.classInfo(1, 4, 8), 27);
    }

    private static void setClassRefused() {
        CompatibilityJudge x = new CompatibilityJudge();
        DUE.bounds(x, "setClass, version 2", () -> x.setClass(2, 3, 0, 0));
        DUE.bounds(x, "setClass, no class, wrong what", () -> x.setClass(0, 5, 9, 0));
        DUE.bounds(x, "setClass, class 10", () -> x.setClass(0, 10, 0, 0));
        DUE.argument(x, "setClass, what -1", () -> x.setClass(0, 3, -1, 0));
        DUE.argument(x, "setClass, what 6", () -> x.setClass(0, 3, 6, 0));
        for (int what = 0; what <= 2; what++) {
            int w = what;
            DUE.argument(x, "setClass, " + w + ", 2", () -> x.setClass(0, 3, w, 2));
            DUE.argument(x, "setClass, " + w + ", -1", () -> x.setClass(0, 3, w, -1));
        }
        DUE.argument(x, "setClass, package 4", () -> x.setClass(0, 3, 3, 4));
        DUE.argument(x, "setClass, package -1", () -> x.setClass(0, 3, 3, -1));
        DUE.argument(x, "setClass, superclass itself", () -> x.setClass(0, 3, 4, 3));
        DUE.argument(x, "setClass, superclass greater", () -> x.setClass(0, 3, 4, 4));
        DUE.argument(x, "setClass, superclass is an interface", () -> x.setClass(0, 3, 4, 2));
        DUE.argument(x, "setClass, superclass -1", () -> x.setClass(0, 3, 4, -1));
        DUE.argument(x, "setClass, interface 0", () -> x.setClass(0, 3, 5, 1));
        DUE.argument(x, "setClass, interface 1", () -> x.setClass(0, 3, 5, 6));
        DUE.argument(x, "setClass, interfaces -1", () -> x.setClass(0, 3, 5, -1));
        DUE.argument(x, "setClass, an interface extends itself", () -> x.setClass(0, 2, 5, 4));
        DUE.argument(x, "setClass, final out of range for an interface", () -> x.setClass(0, 2, 1, 2));
        DUE.state(x, "setClass, a final interface", () -> x.setClass(0, 2, 1, 1));
        DUE.state(x, "setClass, an interface not final", () -> x.setClass(0, 2, 1, 0));
        DUE.state(x, "setClass, an abstract interface", () -> x.setClass(0, 2, 2, 1));
        DUE.state(x, "setClass, an interface not abstract", () -> x.setClass(0, 2, 2, 0));
        DUE.state(x, "setClass, an interface's superclass 0", () -> x.setClass(0, 2, 4, 0));
        DUE.state(x, "setClass, an interface's superclass 99", () -> x.setClass(0, 2, 4, 99));
        DUE.state(x, "setClass, a final superclass", () -> x.setClass(0, 1, 1, 1));
        x.setClass(0, 3, 1, 1);
        DUE.argument(x, "setClass, superclass is final", () -> x.setClass(0, 4, 4, 3));
        x.addMethod(0, 4, 5, 3, 4);
        DUE.state(x, "setClass, not abstract with an abstract method", () -> x.setClass(0, 4, 2, 0));
        DUE.is("setClass, abstract again", x.setClass(0, 4, 2, 1), 1);
        DUE.is("setClass, final and abstract", x.setClass(0, 4, 1, 1), 0);
    }

    private static void setClassOfClassZero() {
        CompatibilityJudge x = new CompatibilityJudge();
        for (int what = 0; what <= 3; what++) {
            int w = what;
            DUE.state(x, "setClass of class 0, " + w, () -> x.setClass(0, 0, w, 1));
        }
        DUE.argument(x, "setClass of class 0, 0, 2", () -> x.setClass(0, 0, 0, 2));
        DUE.argument(x, "setClass of class 0, 4, 0", () -> x.setClass(0, 0, 4, 0));
        DUE.argument(x, "setClass of class 0, 4, NONE", () -> x.setClass(0, 0, 4, -2));
        DUE.argument(x, "setClass of class 0, 5, 4", () -> x.setClass(0, 0, 5, 4));
        DUE.state(x, "setClass of class 0, 5, 0", () -> x.setClass(0, 0, 5, 0));
    }

    private static void exists() {
        CompatibilityJudge x = new CompatibilityJudge();
        for (int c = 0; c <= 9; c++) {
            DUE.is("exists(0, " + c + ")", x.exists(0, c), c <= 4);
        }
        DUE.bounds(x, "exists, version 2", () -> x.exists(2, 0) ? 1 : 0);
        DUE.bounds(x, "exists, version -1", () -> x.exists(-1, 0) ? 1 : 0);
        DUE.bounds(x, "exists, class -1", () -> x.exists(0, -1) ? 1 : 0);
        DUE.bounds(x, "exists, class 10", () -> x.exists(0, 10) ? 1 : 0);
    }

    private static void classInfo() {
        CompatibilityJudge x = new CompatibilityJudge();
        DUE.bounds(x, "classInfo, version 2", () -> x.classInfo(2, 0, 0));
        DUE.bounds(x, "classInfo, no class, wrong what", () -> x.classInfo(0, 9, 10));
        DUE.bounds(x, "classInfo, class -1", () -> x.classInfo(0, -1, 0));
        DUE.bounds(x, "classInfo, class 32", () -> x.classInfo(0, 32, 0));
        DUE.argument(x, "classInfo, what 10", () -> x.classInfo(0, 0, 10));
        DUE.argument(x, "classInfo, what -1", () -> x.classInfo(0, 0, -1));
        x.define(0, 5, true, 0, 4);
        x.define(0, 6, true, 0, 32);
        x.define(0, 7, false, 3, 64);
        DUE.is("supertypes over interfaces", x.classInfo(0, 7, 8), 1 + 2 + 4 + 8 + 32 + 64 + 128);
        DUE.is("supertypes of an interface", x.classInfo(0, 6, 8), 1 + 4 + 32 + 64);
    }

    private static void incompleteClasses() {
        CompatibilityJudge x = new CompatibilityJudge();
        // Class 3 has the method that interface 2 asks for, and class 5 inherits it.
        x.define(0, 5, false, 3, 0);
        DUE.is("inherited", x.classInfo(0, 5, 9), 0);
        // Class 6 does not; a class that only implements 2 is incomplete.
        x.define(0, 6, false, 1, 4);
        DUE.is("lacking", x.classInfo(0, 6, 9), 1);
        x.draft(-1, 0, 0, 0);
        x.addMethod(0, 6, 2, 3, 0);
        DUE.is("another result does not help", x.classInfo(0, 6, 9), 1);
        x.removeMember(0, 8);
        x.draft(1, 0, 0, 0);
        x.addMethod(0, 6, 2, 3, 1);
        DUE.is("a static method does not help", x.classInfo(0, 6, 9), 1);
        x.setMember(0, 8, 1, 0);
        DUE.is("a method helps", x.classInfo(0, 6, 9), 0);
        x.setMember(0, 8, 0, 0);
        DUE.is("a private method does not help", x.classInfo(0, 6, 9), 1);
        x.setMember(0, 8, 0, 1);
        DUE.is("a method of package access helps", x.classInfo(0, 6, 9), 0);
        x.setClass(0, 6, 2, 1);
        x.setMember(0, 8, 1, 4);
        DUE.is("an abstract method does not help", x.classInfo(0, 6, 9), 1);
        // An interface with a default method for its own superinterface is complete.
        x.define(0, 7, true, 0, 4);
        DUE.is("an interface that inherits", x.classInfo(0, 7, 9), 1);
        x.addMethod(0, 7, 2, 3, 0);
        DUE.is("an interface with a default", x.classInfo(0, 7, 9), 0);
        x.define(0, 8, true, 0, 128);
        DUE.is("an interface below a default", x.classInfo(0, 8, 9), 0);
        x.setMember(0, 9, 1, 4);
        DUE.is("an interface with its own abstract method", x.classInfo(0, 7, 9), 1);
    }

    private static void copyVersion() {
        CompatibilityJudge x = new CompatibilityJudge();
        x.define(0, 5, false, 1, 4);
        x.setClass(0, 5, 3, 2);
        x.setClass(0, 4, 4, 0);
        x.removeMember(0, 2);
        x.setClass(1, 3, 0, 0);
        DUE.is("copyVersion()", x.copyVersion(), 7);
        classRow(x, 1, 5, 0, 0, 0, 2, 1, 4, 0, 0, 39, 1);
        DUE.is("superclass of 4", x.classInfo(1, 4, 4), 0);
        DUE.is("class 3 public", x.classInfo(1, 3, 0), 1);
        memberRow(x, 1, 2, 2, 0, -2, 1, 1, 1, -1, 1, 1, -2);
        x.setMember(1, 2, 0, 3);
        DUE.is("the old version stays", x.memberInfo(0, 2, 0), 2);
        x.setClass(1, 5, 3, 1);
        DUE.is("the old version stays", x.classInfo(0, 5, 3), 2);
        DUE.is("undo", x.undo(), 4);
        DUE.is("undo", x.undo(), 3);
        DUE.is("undo copyVersion", x.undo(), 2);
        DUE.is("class 3 of the new version", x.classInfo(1, 3, 0), 0);
        DUE.is("exists(1, 5)", x.exists(1, 5), false);
        DUE.is("members(1)", x.members(1), 8);
        DUE.is("members(0)", x.members(0), 7);
    }
}

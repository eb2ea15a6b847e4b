/** Promise 25: every error of compiling, in the order of the errors, and the method that a call means. */
public final class CompilingTest {
    private static final Due DUE = new Due("CompilingTest");

    public static void main(String[] args) {
        classErrors();
        fieldErrors();
        openMembers();
        callErrors();
        candidates();
        bestCandidates();
        creating();
        extending();
        implementing();
        arguments();
        DUE.end();
    }

    private static void classErrors() {
        CompatibilityJudge x = new CompatibilityJudge();
        x.setClass(1, 3, 0, 0);
        DUE.is("compile, class not open", x.compile(1, 1), 2);
        DUE.is("compile with version 0", x.compile(1, 0), 0);
        x.setClass(1, 3, 3, 2);
        DUE.is("compile, class in the package", x.compile(1, 1), 0);
        x.removeClass(1, 3);
        DUE.is("compile, no class", x.compile(1, 1), 1);
        DUE.is("compile, a constant's class", x.compile(0, 1), 1);
    }

    private static void fieldErrors() {
        CompatibilityJudge x = new CompatibilityJudge();
        x.addClient(0, 3, 0, 2);
        x.addClient(1, 3, 0, 2);
        x.setMember(1, 0, 1, 2);
        DUE.is("reads a final field", x.compile(3, 1), 0);
        DUE.is("writes a final field", x.compile(4, 1), 6);
        x.setMember(1, 0, 0, 1);
        DUE.is("reads a closed field", x.compile(3, 1), 5);
        DUE.is("writes a closed final field", x.compile(4, 1), 5);
        x.removeMember(1, 0);
        DUE.is("reads no field", x.compile(3, 1), 3);
        DUE.is("writes no field", x.compile(4, 1), 3);
        x.draft(4, 0, 0, 0);
        x.addField(1, 3, 0, 3, 0);
        DUE.is("reads a field of another type", x.compile(3, 1), 0);
        // The first field with the name counts, even if one behind it were open.
        x.copyVersion();
        x.addField(1, 3, 0, 0, 0);
        DUE.is("reads behind a private field", x.compile(3, 1), 5);
    }

    private static void openMembers() {
        CompatibilityJudge x = new CompatibilityJudge();
        // The clients 3 to 6 read field 0 of class 3 in the packages 0 to 3.
        for (int p = 0; p <= 3; p++) {
            x.addClient(0, 3, 0, p);
        }
        x.setMember(1, 0, 0, 1);
        for (int p = 0; p <= 3; p++) {
            DUE.is("package access, package " + p, x.compile(3 + p, 1), p == 0 ? 0 : 5);
        }
        x.setClass(1, 1, 3, 3);
        for (int p = 0; p <= 3; p++) {
            DUE.is("package access, class moved, package " + p, x.compile(3 + p, 1), p == 3 ? 0 : 5);
        }
        x.setBase(5, 4);
        DUE.is("package access is not for subclasses", x.compile(5, 1), 5);
        x.setMember(1, 0, 0, 2);
        DUE.is("protected, without the base", x.compile(4, 1), 5);
        DUE.is("protected, with a base below", x.compile(5, 1), 0);
        DUE.is("protected, in the package", x.compile(6, 1), 0);
        x.setClass(1, 4, 4, 0);
        DUE.is("protected, the base is not below any more", x.compile(5, 1), 5);
        x.setClass(1, 4, 4, 3);
        DUE.is("protected, the base is below again", x.compile(5, 1), 0);
        x.removeClass(1, 4);
        DUE.is("protected, the base does not exist", x.compile(5, 1), 5);
        x.setMember(1, 0, 0, 0);
        DUE.is("private, in the package", x.compile(6, 1), 5);
    }

    private static void callErrors() {
        CompatibilityJudge x = new CompatibilityJudge();
        x.draft(-1, 1, 3, 0);
        DUE.is("addClient", x.addClient(2, 4, 1, 2), 3);
        x.setMember(1, 7, 0, 1);
        DUE.is("not open", x.compile(3, 1), 3);
        x.setMember(1, 7, 0, 0);
        DUE.is("private", x.compile(3, 1), 3);
        x.setMember(1, 3, 0, 3);
        DUE.is("the other one", x.compile(3, 1), 0);
        x.setClass(1, 3, 4, 0);
        DUE.is("the argument does not fit any more", x.compile(3, 1), 3);
        x.setMember(1, 7, 0, 3);
        DUE.is("the argument is the very type", x.compile(3, 1), 0);
        x.removeClass(1, 3);
        DUE.is("a type that does not exist fits itself", x.compile(3, 1), 0);
        x.removeMember(1, 7 - 2);
        DUE.is("but nothing else", x.compile(3, 1), 3);
    }

    /** Which methods are candidates; each client compiles only if its method is one. */
    private static void candidates() {
        CompatibilityJudge x = new CompatibilityJudge();
        x.define(0, 5, true, 0, 0);
        x.define(0, 6, true, 0, 32);
        x.define(0, 7, false, 3, 64);
        for (int c = 5; c <= 7; c++) {
            x.setClass(0, c, 0, 1);
        }
        x.draft(-1, 0, 0, 0);
        x.addMethod(0, 5, 6, 3, 1);
        DUE.is("a static method of the interface itself", x.addClient(2, 5, 6, 2), 3);
        DUE.argument(x, "a static method of a superinterface", () -> x.addClient(2, 6, 6, 2));
        DUE.argument(x, "a static method of a class's interface", () -> x.addClient(2, 7, 6, 2));
        x.addMethod(0, 3, 7, 3, 1);
        DUE.is("a static method of a superclass", x.addClient(2, 7, 7, 2), 4);
        // A method in between hides one with its signature, even if it is not open, but not if it is private.
        x.addMethod(0, 1, 5, 3, 0);
        DUE.is("a method of class 1", x.addClient(2, 7, 5, 2), 5);
        x.addMethod(0, 3, 5, 1, 0);
        DUE.is("hidden by one that is not open", x.compile(5, 0), 3);
        x.setMember(0, 11, 0, 0);
        DUE.is("not hidden by a private one", x.compile(5, 0), 0);
        x.setMember(0, 11, 0, 1);
        x.draft(4, 0, 0, 0);
        x.removeMember(0, 11);
        x.addMethod(0, 3, 5, 1, 0);
        DUE.is("hidden by one with another result", x.compile(5, 0), 3);
        x.removeMember(0, 11);
        x.draft(4, 1, 1, 0);
        x.addMethod(0, 3, 5, 1, 0);
        DUE.is("not hidden by another signature", x.compile(5, 0), 0);
        x.draft(-1, 0, 0, 0);
        x.addMethod(0, 4, 5, 1, 0);
        DUE.is("not hidden by a class that is no supertype", x.compile(5, 0), 0);
        // An interface below hides the method of the interface above, also by a static one.
        x.addMethod(0, 5, 4, 3, 0);
        x.addClient(2, 6, 4, 2);
        DUE.is("a default method of a superinterface", x.compile(6, 0), 0);
        x.addMethod(0, 6, 4, 3, 1);
        x.addClient(2, 6, 4, 2);
        DUE.is("static method of the interface itself hides it", x.clientInfo(7, 9), 1);
        DUE.argument(x, "hidden by a static one that is no candidate", () -> x.addClient(2, 7, 4, 2));
    }

    private static void bestCandidates() {
        CompatibilityJudge x = new CompatibilityJudge();
        x.define(0, 5, true, 0, 0);
        x.define(0, 6, true, 0, 0);
        x.define(0, 7, false, 4, 0x60);
        x.setClass(0, 7, 2, 1);
        x.setClass(0, 7, 0, 1);
        x.draft(0, 0, 0, 0);
        x.addMethod(0, 6, 5, 3, 4);
        x.draft(1, 0, 0, 0);
        x.addMethod(0, 5, 5, 3, 4);
        x.addClient(2, 7, 5, 0);
        DUE.is("two abstract: the lowest number", x.clientInfo(3, 8), 0);
        x.setMember(0, 9, 1, 0);
        x.addClient(2, 7, 5, 0);
        DUE.is("the one that is not abstract", x.clientInfo(4, 8), 1);
        x.setMember(0, 8, 1, 0);
        x.addClient(2, 7, 5, 0);
        DUE.is("two that are not abstract: the lowest number", x.clientInfo(5, 8), 0);
        // The more special parameters win; crosswise ones are ambiguous.
        x.draft(2, 2, 1, 1);
        x.addMethod(0, 1, 6, 3, 0);
        x.draft(3, 2, 1, 3);
        x.addMethod(0, 1, 6, 3, 0);
        x.draft(4, 2, 3, 1);
        x.addMethod(0, 1, 6, 3, 0);
        int[][] calls = {{4, 4, 2}, {1, 3, 3}, {3, 1, 4}, {3, 4, 4}};
        for (int[] a : calls) {
            x.draft(-1, 2, a[0], a[1]);
            int client = x.addClient(2, 1, 6, 0);
            DUE.is("call with " + a[0] + ", " + a[1], x.clientInfo(client, 8), a[2]);
        }
        x.draft(-1, 2, 3, 3);
        DUE.argument(x, "call with 3, 3", () -> x.addClient(2, 1, 6, 0));
        x.draft(-1, 2, -1, 1);
        DUE.argument(x, "call with int, 1", () -> x.addClient(2, 1, 6, 0));
        x.draft(5, 2, 3, 3);
        x.addMethod(0, 1, 6, 3, 0);
        int client = x.addClient(2, 1, 6, 0);
        DUE.is("call with 3, 3 then", x.clientInfo(client, 8), 5);
        x.copyVersion();
        x.removeMember(1, 13);
        DUE.is("ambiguous in the new version", x.compile(client, 1), 4);
        x.removeMember(1, 12);
        DUE.is("not ambiguous any more", x.compile(client, 1), 0);
    }

    private static void creating() {
        CompatibilityJudge x = new CompatibilityJudge();
        x.addClient(3, 3, 0, 2);
        DUE.is("creates", x.compile(3, 1), 0);
        x.setClass(1, 3, 2, 1);
        DUE.is("creates an abstract class", x.compile(3, 1), 6);
        x.setClass(1, 3, 0, 0);
        DUE.is("creates a closed class", x.compile(3, 1), 2);
        x.removeClass(1, 3);
        x.define(1, 3, true, 0, 0);
        x.setClass(1, 3, 0, 1);
        DUE.is("creates an interface", x.compile(3, 1), 6);
    }

    private static void extending() {
        CompatibilityJudge x = new CompatibilityJudge();
        x.addClient(4, 3, 0, 2);
        DUE.is("extends", x.compile(3, 1), 0);
        x.setClass(1, 3, 2, 1);
        DUE.is("extends an abstract class", x.compile(3, 1), 0);
        x.removeMember(1, 5);
        DUE.is("extends an incomplete class", x.compile(3, 1), 7);
        x.setClass(1, 3, 1, 1);
        DUE.is("extends a final class", x.compile(3, 1), 6);
        x.removeClass(1, 3);
        x.define(1, 3, true, 0, 4);
        x.setClass(1, 3, 0, 1);
        DUE.is("extends an interface", x.compile(3, 1), 6);
    }

    private static void implementing() {
        CompatibilityJudge x = new CompatibilityJudge();
        x.define(0, 5, false, 3, 0);
        x.define(0, 6, true, 0, 0);
        x.setClass(0, 6, 0, 1);
        x.setClass(0, 5, 0, 1);
        x.addClient(5, 6, 0, 2);
        x.setBase(3, 5);
        x.copyVersion();
        x.draft(1, 0, 0, 0);
        x.addMethod(1, 6, 2, 3, 4);
        DUE.is("the base has the method", x.compile(3, 1), 0);
        x.addMethod(1, 6, 7, 3, 4);
        DUE.is("the base lacks the method", x.compile(3, 1), 7);
        x.setMember(1, 9, 1, 0);
        DUE.is("a default method", x.compile(3, 1), 0);
        x.setMember(1, 9, 1, 4);
        x.setClass(1, 5, 1, 1);
        DUE.is("the base is final", x.compile(3, 1), 8);
        x.setClass(1, 5, 1, 0);
        x.setClass(1, 5, 0, 0);
        DUE.is("the base is not open", x.compile(3, 1), 8);
        x.removeClass(1, 5);
        DUE.is("the base does not exist", x.compile(3, 1), 8);
        x.define(1, 5, true, 0, 0);
        x.setClass(1, 5, 0, 1);
        DUE.is("the base is an interface", x.compile(3, 1), 8);
        x.removeClass(1, 6);
        x.define(1, 6, false, 0, 0);
        x.setClass(1, 6, 0, 1);
        DUE.is("a plain class", x.compile(3, 1), 6);
        // The base's abstract method is given by the interface's default, and the other way round.
        CompatibilityJudge y = new CompatibilityJudge();
        y.setClass(1, 1, 2, 1);
        y.setMember(0, 4, 1, 0);
        y.addClient(5, 2, 0, 0);
        y.setBase(3, 1);
        y.draft(1, 0, 0, 0);
        y.addMethod(1, 1, 2, 3, 4);
        DUE.is("an abstract method of the base comes first", y.compile(3, 1), 7);
        y.setMember(1, 8, 1, 0);
        DUE.is("a method of the base comes first", y.compile(3, 1), 0);
    }

    private static void arguments() {
        CompatibilityJudge x = new CompatibilityJudge();
        DUE.bounds(x, "compile(3, 0)", () -> x.compile(3, 0));
        DUE.bounds(x, "compile(-1, 0)", () -> x.compile(-1, 0));
        DUE.bounds(x, "compile(0, 2)", () -> x.compile(0, 2));
        DUE.bounds(x, "compile(0, -1)", () -> x.compile(0, -1));
        // Compiling keeps no symbol.
        x.setMember(0, 1, 2, 9);
        long before = x.checksum();
        DUE.is("compile(0, 0)", x.compile(0, 0), 0);
        DUE.is("the symbol that is kept", x.clientInfo(0, 7), 7);
        DUE.is("checksum", x.checksum(), before);
    }
}

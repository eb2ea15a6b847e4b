/** Promises 8 to 15: the draft, and the calls about members. */
public final class MembersTest {
    private static final Due DUE = new Due("MembersTest");

    public static void main(String[] args) {
        draft();
        addField();
        addMethod();
        fullVersion();
        removeMember();
        setAccess();
        setFlags();
        setConstant();
        setMemberRefused();
        moveMember();
        moveMemberRefused();
        members();
        DUE.end();
    }

    private static void memberRow(CompatibilityJudge x, int version, int m, int... row) {
        for (int what = 0; what < row.length; what++) {
            DUE.is("memberInfo(" + version + ", " + m + ", " + what + ")", x.memberInfo(version, m, what), row[what]);
        }
    }

    private static void draft() {
        CompatibilityJudge x = new CompatibilityJudge();
        DUE.is("draft", x.draft(9, 2, -1, 9), 0);
        DUE.is("draft", x.draft(-1, 1, 5, 100), 2);
        DUE.is("draft", x.draft(0, 0, 100, -100), 1);
        DUE.is("draft", x.draft(0, 2, 0, 0), 0);
        DUE.argument(x, "draft, -1 parameters", () -> x.draft(0, -1, 0, 0));
        DUE.argument(x, "draft, 3 parameters", () -> x.draft(0, 3, 0, 0));
        DUE.argument(x, "draft, result -2", () -> x.draft(-2, 0, 0, 0));
        DUE.argument(x, "draft, result 10", () -> x.draft(10, 0, 0, 0));
        DUE.argument(x, "draft, first -2", () -> x.draft(0, 1, -2, 0));
        DUE.argument(x, "draft, first 10", () -> x.draft(0, 2, 10, 0));
        DUE.argument(x, "draft, second -2", () -> x.draft(0, 2, 0, -2));
        DUE.argument(x, "draft, second 10", () -> x.draft(0, 2, 0, 10));
        DUE.is("draft behind those", x.draft(-1, 0, 0, 0), 2);
        // The draft is not undone, and setting it is not undoable.
        DUE.state(x, "undo", x::undo);
        x.addField(0, 3, 5, 3, 0);
        x.draft(4, 1, 2, 0);
        x.undo();
        DUE.is("draft behind undo", x.draft(-1, 0, 0, 0), 1);
    }

    private static void addField() {
        CompatibilityJudge x = new CompatibilityJudge();
        x.draft(9, 2, 1, 1);
        DUE.is("addField", x.addField(0, 1, 7, 0, 0), 8);
        memberRow(x, 0, 8, 0, 0, -2, 0, 1, 7, 9, -2, -2, -2);
        DUE.is("addField to an interface", x.addField(0, 2, 0, 3, 3), 9);
        memberRow(x, 0, 9, 3, 3, -2, 0, 2, 0, 9, -2, -2, -2);
        DUE.is("addField, a name of a method", x.addField(0, 3, 2, 1, 2), 10);
        DUE.is("members(0)", x.members(0), 11);
        DUE.is("members(1)", x.members(1), 8);
        DUE.bounds(x, "addField, version 2", () -> x.addField(2, 1, 5, 3, 0));
        DUE.bounds(x, "addField, no class", () -> x.addField(0, 5, 9, 3, 0));
        DUE.bounds(x, "addField, class -1", () -> x.addField(0, -1, 5, 3, 0));
        DUE.argument(x, "addField, name -1", () -> x.addField(0, 1, -1, 3, 0));
        DUE.argument(x, "addField, name 8", () -> x.addField(0, 1, 8, 3, 0));
        DUE.argument(x, "addField, access -1", () -> x.addField(0, 1, 5, -1, 0));
        DUE.argument(x, "addField, access 4", () -> x.addField(0, 1, 5, 4, 0));
        DUE.argument(x, "addField, flags -1", () -> x.addField(0, 1, 5, 3, -1));
        DUE.argument(x, "addField, flags 4", () -> x.addField(0, 1, 5, 3, 4));
        DUE.argument(x, "addField, interface and protected", () -> x.addField(0, 2, 5, 2, 3));
        DUE.argument(x, "addField, interface and only static", () -> x.addField(0, 2, 5, 3, 1));
        DUE.argument(x, "addField, interface and only final", () -> x.addField(0, 2, 5, 3, 2));
        DUE.argument(x, "addField, class 0 and flags 4", () -> x.addField(0, 0, 5, 3, 4));
        DUE.state(x, "addField, class 0", () -> x.addField(0, 0, 5, 3, 0));
        DUE.state(x, "addField, a name of another field", () -> x.addField(0, 1, 0, 0, 1));
        DUE.is("addField, the same name elsewhere", x.addField(0, 3, 0, 3, 0), 11);
        DUE.is("undo", x.undo(), 3);
        DUE.is("members(0)", x.members(0), 11);
    }

    private static void addMethod() {
        CompatibilityJudge x = new CompatibilityJudge();
        x.draft(9, 2, -1, 5);
        DUE.is("addMethod", x.addMethod(1, 1, 7, 1, 3), 8);
        memberRow(x, 1, 8, 1, 3, -2, 1, 1, 7, 9, 2, -1, 5);
        DUE.state(x, "addMethod, the same signature", () -> x.addMethod(1, 1, 7, 3, 0));
        x.draft(8, 2, -1, 5);
        DUE.state(x, "addMethod, the same signature, another result", () -> x.addMethod(1, 1, 7, 3, 0));
        x.draft(8, 1, -1, 5);
        DUE.is("addMethod, fewer parameters", x.addMethod(1, 1, 7, 3, 0), 9);
        x.draft(8, 0, -1, 5);
        DUE.is("addMethod, no parameters", x.addMethod(1, 1, 7, 3, 0), 10);
        memberRow(x, 1, 10, 3, 0, -2, 1, 1, 7, 8, 0, -2, -2);
        x.draft(8, 2, 5, -1);
        DUE.is("addMethod, parameters swapped", x.addMethod(1, 1, 7, 3, 0), 11);
        DUE.is("addMethod, another name", x.addMethod(1, 1, 6, 3, 0), 12);
        DUE.is("addMethod, abstract", x.addMethod(1, 4, 6, 1, 4), 13);
        DUE.is("addMethod, default", x.addMethod(1, 2, 6, 3, 0), 14);
        DUE.is("addMethod, static in an interface", x.addMethod(1, 2, 5, 3, 1), 15);
        DUE.is("addMethod, abstract in an interface", x.addMethod(1, 2, 4, 3, 4), 16);
        DUE.bounds(x, "addMethod, version -1", () -> x.addMethod(-1, 1, 5, 3, 0));
        DUE.bounds(x, "addMethod, no class", () -> x.addMethod(1, 5, 9, 3, 0));
        DUE.argument(x, "addMethod, name -1", () -> x.addMethod(1, 1, -1, 3, 0));
        DUE.argument(x, "addMethod, name 8", () -> x.addMethod(1, 1, 8, 3, 0));
        DUE.argument(x, "addMethod, access -1", () -> x.addMethod(1, 1, 5, -1, 0));
        DUE.argument(x, "addMethod, access 4", () -> x.addMethod(1, 1, 5, 4, 0));
        DUE.argument(x, "addMethod, flags -1", () -> x.addMethod(1, 4, 5, 3, -1));
        DUE.argument(x, "addMethod, flags 8", () -> x.addMethod(1, 4, 5, 3, 8));
        DUE.argument(x, "addMethod, abstract and private", () -> x.addMethod(1, 4, 5, 0, 4));
        DUE.argument(x, "addMethod, abstract and static", () -> x.addMethod(1, 4, 5, 3, 5));
        DUE.argument(x, "addMethod, abstract and final", () -> x.addMethod(1, 4, 5, 3, 6));
        DUE.argument(x, "addMethod, abstract in a class that is not", () -> x.addMethod(1, 1, 5, 3, 4));
        DUE.argument(x, "addMethod, interface and private", () -> x.addMethod(1, 2, 3, 0, 0));
        DUE.argument(x, "addMethod, interface and protected", () -> x.addMethod(1, 2, 3, 2, 0));
        DUE.argument(x, "addMethod, interface and final", () -> x.addMethod(1, 2, 3, 3, 2));
        DUE.argument(x, "addMethod, abstract in class 0", () -> x.addMethod(1, 0, 5, 3, 4));
        DUE.state(x, "addMethod, class 0", () -> x.addMethod(1, 0, 5, 3, 0));
        DUE.is("undo", x.undo(), 4);
        DUE.is("members(1)", x.members(1), 16);
        DUE.is("members(0)", x.members(0), 8);
    }

    private static void fullVersion() {
        CompatibilityJudge x = new CompatibilityJudge();
        int many = 8;
        for (int c = 1; c <= 4; c++) {
            for (int name = 0; name <= 7; name++) {
                x.draft(-1, 2, c, 9);
                DUE.is("addMethod to the limit", x.addMethod(0, c, name, 3, 0), many);
                many++;
            }
        }
        DUE.is("members(0)", x.members(0), 40);
        DUE.state(x, "addMethod, 40 members", () -> x.addMethod(0, 1, 0, 3, 0));
        DUE.state(x, "addField, 40 members", () -> x.addField(0, 1, 5, 3, 0));
        DUE.argument(x, "addField, 40 members, name 8", () -> x.addField(0, 1, 8, 3, 0));
        DUE.is("the other version has room", x.addField(1, 1, 5, 3, 0), 8);
        DUE.is("moveMember goes on", x.moveMember(0, 0, 3), 1);
        DUE.is("checksum and sample go on", x.sample(5, 0, 0) != 77 && x.checksum() != 0, true);
        DUE.is("removeMember(0, 39)", x.removeMember(0, 39), 39);
        DUE.is("addField", x.addField(0, 1, 5, 3, 0), 39);
        DUE.is("removeMember(0, 0)", x.removeMember(0, 0), 39);
    }

    private static void removeMember() {
        CompatibilityJudge x = new CompatibilityJudge();
        DUE.bounds(x, "removeMember, version 2", () -> x.removeMember(2, 0));
        DUE.bounds(x, "removeMember, -1", () -> x.removeMember(0, -1));
        DUE.bounds(x, "removeMember, 8", () -> x.removeMember(0, 8));
        DUE.is("removeMember(0, 1)", x.removeMember(0, 1), 7);
        memberRow(x, 0, 0, 3, 0, -2, 0, 1, 0, -1, -2, -2, -2);
        memberRow(x, 0, 1, 3, 0, -2, 1, 1, 0, -1, 0, -2, -2);
        memberRow(x, 0, 2, 2, 0, -2, 1, 1, 1, -1, 1, 1, -2);
        memberRow(x, 0, 3, 3, 4, -2, 1, 2, 2, 1, 0, -2, -2);
        memberRow(x, 0, 6, 3, 0, -2, 1, 4, 1, -1, 1, 3, -2);
        DUE.bounds(x, "memberInfo, 7", () -> x.memberInfo(0, 7, 0));
        DUE.is("members(1)", x.members(1), 8);
        // The signature moves with the member: methods are still found.
        x.draft(1, 0, 0, 0);
        DUE.is("method(0, 3, 2)", x.method(0, 3, 2), 4);
        DUE.is("undo", x.undo(), 0);
        memberRow(x, 0, 1, 3, 3, 7, 0, 1, 1, -1, -2, -2, -2);
        for (int n = 7; n >= 0; n--) {
            DUE.is("removeMember(1, 0)", x.removeMember(1, 0), n);
        }
        DUE.bounds(x, "removeMember, none left", () -> x.removeMember(1, 0));
    }

    private static void setAccess() {
        CompatibilityJudge x = new CompatibilityJudge();
        DUE.is("setMember, access", x.setMember(0, 0, 0, 0), 3);
        DUE.is("setMember, access", x.setMember(0, 0, 0, 1), 0);
        DUE.is("setMember, access", x.setMember(0, 3, 0, 0), 2);
        DUE.is("setMember, access of an interface's", x.setMember(0, 4, 0, 3), 3);
        DUE.argument(x, "setMember, access 2 in an interface", () -> x.setMember(0, 4, 0, 2));
        DUE.argument(x, "setMember, access 4", () -> x.setMember(0, 0, 0, 4));
        DUE.argument(x, "setMember, access -1", () -> x.setMember(0, 0, 0, -1));
        x.addMethod(0, 4, 5, 3, 4);
        DUE.argument(x, "setMember, an abstract method private", () -> x.setMember(0, 8, 0, 0));
        DUE.is("setMember, an abstract method of the package", x.setMember(0, 8, 0, 1), 3);
        x.addField(0, 2, 5, 3, 3);
        DUE.argument(x, "setMember, an interface's field protected", () -> x.setMember(0, 9, 0, 2));
        DUE.is("setMember, an interface's field public", x.setMember(0, 9, 0, 3), 3);
        DUE.is("undo", x.undo(), 4);
    }

    private static void setFlags() {
        CompatibilityJudge x = new CompatibilityJudge();
        DUE.is("setMember, flags of a field", x.setMember(1, 0, 1, 2), 0);
        DUE.is("setMember, flags of a field", x.setMember(1, 0, 1, 1), 2);
        DUE.argument(x, "setMember, flags 4 of a field", () -> x.setMember(1, 0, 1, 4));
        DUE.argument(x, "setMember, flags -1 of a field", () -> x.setMember(1, 0, 1, -1));
        DUE.is("setMember, flags 3 of a method", x.setMember(1, 2, 1, 3), 0);
        DUE.argument(x, "setMember, abstract in a class that is not", () -> x.setMember(1, 2, 1, 4));
        DUE.is("setMember, abstract", x.setMember(1, 7, 1, 4), 0);
        DUE.argument(x, "setMember, abstract and static", () -> x.setMember(1, 7, 1, 5));
        DUE.argument(x, "setMember, abstract and final", () -> x.setMember(1, 7, 1, 6));
        DUE.argument(x, "setMember, flags 8", () -> x.setMember(1, 7, 1, 8));
        DUE.is("setMember, not abstract", x.setMember(1, 7, 1, 2), 4);
        x.setMember(1, 7, 0, 0);
        DUE.argument(x, "setMember, abstract and private", () -> x.setMember(1, 7, 1, 4));
        DUE.is("setMember, a default method", x.setMember(1, 4, 1, 0), 4);
        DUE.is("setMember, a static interface method", x.setMember(1, 4, 1, 1), 0);
        DUE.argument(x, "setMember, a final interface method", () -> x.setMember(1, 4, 1, 2));
        x.addField(1, 2, 5, 3, 3);
        DUE.argument(x, "setMember, an interface's field not static", () -> x.setMember(1, 8, 1, 2));
        DUE.is("setMember, an interface's field", x.setMember(1, 8, 1, 3), 3);
    }

    private static void setConstant() {
        CompatibilityJudge x = new CompatibilityJudge();
        DUE.is("setMember, constant", x.setMember(0, 1, 2, 99), 7);
        DUE.is("setMember, constant", x.setMember(0, 1, 2, -99), 99);
        DUE.is("setMember, constant", x.setMember(0, 1, 2, 0), -99);
        DUE.is("setMember, constant away", x.setMember(0, 1, 2, -2), 0);
        DUE.is("setMember, constant away again", x.setMember(0, 1, 2, -2), -2);
        DUE.is("setMember, constant back", x.setMember(0, 1, 2, -3), -2);
        DUE.argument(x, "setMember, constant 100", () -> x.setMember(0, 1, 2, 100));
        DUE.argument(x, "setMember, constant -100", () -> x.setMember(0, 1, 2, -100));
        DUE.is("flags with static and final", x.setMember(0, 1, 1, 3), 3);
        DUE.is("the constant stays", x.memberInfo(0, 1, 2), -3);
        DUE.is("flags without static", x.setMember(0, 1, 1, 2), 3);
        DUE.is("the constant is lost", x.memberInfo(0, 1, 2), -2);
        DUE.is("flags with static", x.setMember(0, 1, 1, 3), 2);
        DUE.is("the constant does not come back", x.memberInfo(0, 1, 2), -2);
        x.setMember(0, 1, 2, 5);
        x.setMember(0, 1, 1, 1);
        DUE.is("the constant is lost without final", x.memberInfo(0, 1, 2), -2);
        DUE.argument(x, "constant of a field that is not final", () -> x.setMember(0, 1, 2, 5));
        DUE.argument(x, "constant of a field that is not static", () -> x.setMember(0, 0, 2, 5));
        DUE.is("no constant of any field", x.setMember(0, 0, 2, -2), -2);
        x.draft(1, 0, 0, 0);
        int m = x.addField(0, 1, 2, 3, 3);
        DUE.argument(x, "constant of another type", () -> x.setMember(0, m, 2, 5));
        DUE.is("no constant of another type", x.setMember(0, m, 2, -2), -2);
        DUE.argument(x, "constant of a method", () -> x.setMember(0, 2, 2, 5));
        DUE.argument(x, "no constant of a method", () -> x.setMember(0, 2, 2, -2));
    }

    private static void setMemberRefused() {
        CompatibilityJudge x = new CompatibilityJudge();
        DUE.bounds(x, "setMember, version 2", () -> x.setMember(2, 0, 0, 3));
        DUE.bounds(x, "setMember, member 8, what 9", () -> x.setMember(0, 8, 9, 3));
        DUE.bounds(x, "setMember, member -1", () -> x.setMember(0, -1, 0, 3));
        DUE.argument(x, "setMember, what -1", () -> x.setMember(0, 0, -1, 3));
        DUE.argument(x, "setMember, what 3", () -> x.setMember(0, 0, 3, 1));
    }

    private static void moveMember() {
        CompatibilityJudge x = new CompatibilityJudge();
        DUE.is("moveMember of a field", x.moveMember(0, 0, 3), 1);
        memberRow(x, 0, 0, 3, 0, -2, 0, 3, 0, -1, -2, -2, -2);
        DUE.is("moveMember back", x.moveMember(0, 0, 1), 3);
        DUE.is("a constant goes to an interface", x.moveMember(0, 1, 2), 1);
        memberRow(x, 0, 1, 3, 3, 7, 0, 2, 1, -1, -2, -2, -2);
        DUE.is("a method goes to an interface", x.moveMember(0, 2, 2), 1);
        DUE.is("a protected method goes to another class", x.moveMember(0, 3, 3), 1);
        DUE.is("an abstract method goes to an abstract class", x.moveMember(0, 4, 4), 2);
        memberRow(x, 0, 4, 3, 4, -2, 1, 4, 2, 1, 0, -2, -2);
        DUE.is("undo", x.undo(), 4);
        DUE.is("class of member 4", x.memberInfo(0, 4, 4), 2);
        DUE.is("the other version stays", x.memberInfo(1, 0, 4), 1);
    }

    private static void moveMemberRefused() {
        CompatibilityJudge x = new CompatibilityJudge();
        DUE.bounds(x, "moveMember, version 2", () -> x.moveMember(2, 0, 3));
        DUE.bounds(x, "moveMember, member 8", () -> x.moveMember(0, 8, 3));
        DUE.bounds(x, "moveMember, member -1", () -> x.moveMember(0, -1, 3));
        DUE.bounds(x, "moveMember, no class", () -> x.moveMember(0, 4, 5));
        DUE.bounds(x, "moveMember, class -1", () -> x.moveMember(0, 4, -1));
        DUE.argument(x, "an abstract method to a class that is not", () -> x.moveMember(0, 4, 1));
        DUE.argument(x, "an abstract method to class 0", () -> x.moveMember(0, 4, 0));
        DUE.argument(x, "a field to an interface", () -> x.moveMember(0, 0, 2));
        DUE.argument(x, "a protected method to an interface", () -> x.moveMember(0, 3, 2));
        x.setMember(0, 0, 1, 2);
        DUE.argument(x, "a field that is only final to an interface", () -> x.moveMember(0, 0, 2));
        x.setMember(0, 1, 0, 2);
        DUE.argument(x, "a protected constant to an interface", () -> x.moveMember(0, 1, 2));
        x.setMember(0, 2, 1, 2);
        DUE.argument(x, "a final method to an interface", () -> x.moveMember(0, 2, 2));
        DUE.state(x, "a field to class 0", () -> x.moveMember(0, 0, 0));
        DUE.state(x, "a method to class 0", () -> x.moveMember(0, 2, 0));
        DUE.state(x, "a field to its own class", () -> x.moveMember(0, 0, 1));
        DUE.state(x, "a method to its own class", () -> x.moveMember(0, 4, 2));
        DUE.state(x, "a method to a class with its signature", () -> x.moveMember(0, 2, 3));
        x.addField(0, 3, 0, 3, 0);
        DUE.state(x, "a field to a class with its name", () -> x.moveMember(0, 0, 3));
        DUE.is("a method with a field's name", x.moveMember(0, 7, 3), 4);
    }

    private static void members() {
        CompatibilityJudge x = new CompatibilityJudge();
        x.addField(1, 3, 0, 3, 0);
        DUE.is("members(0)", x.members(0), 8);
        DUE.is("members(1)", x.members(1), 9);
        DUE.bounds(x, "members(2)", () -> x.members(2));
        DUE.bounds(x, "members(-1)", () -> x.members(-1));
        DUE.bounds(x, "memberInfo, version 2", () -> x.memberInfo(2, 0, 0));
        DUE.bounds(x, "memberInfo, member 8, what 10", () -> x.memberInfo(0, 8, 10));
        DUE.bounds(x, "memberInfo, member -1", () -> x.memberInfo(0, -1, 0));
        DUE.argument(x, "memberInfo, what 10", () -> x.memberInfo(0, 0, 10));
        DUE.argument(x, "memberInfo, what -1", () -> x.memberInfo(0, 0, -1));
    }
}

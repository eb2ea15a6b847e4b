/** Promises 20 to 24: adding, changing, removing and asking clients. */
public final class ClientsTest {
    private static final Due DUE = new Due("ClientsTest");

    public static void main(String[] args) {
        addClient();
        addClientRefused();
        twelveClients();
        setBase();
        setBaseRefused();
        setBaseCompilesAnew();
        removeClient();
        clientInfo();
        DUE.end();
    }

    private static void clientRow(CompatibilityJudge x, int client, int... row) {
        for (int what = 0; what < row.length; what++) {
            DUE.is("clientInfo(" + client + ", " + what + ")", x.clientInfo(client, what), row[what]);
        }
    }

    private static void addClient() {
        CompatibilityJudge x = new CompatibilityJudge();
        DUE.is("reads a field", x.addClient(0, 4, 0, 3), 3);
        clientRow(x, 3, 0, 4, 0, 3, 0, -2, 0, -2, -1, 0);
        DUE.is("reads a constant", x.addClient(0, 1, 1, 0), 4);
        clientRow(x, 4, 0, 1, 1, 0, 0, -2, 1, 7, -2, -2);
        DUE.is("writes a field", x.addClient(1, 3, 0, 1), 5);
        clientRow(x, 5, 1, 3, 0, 1, 0, -2, 0, -2, -1, 0);
        x.draft(9, 1, 3, 0);
        DUE.is("calls a method", x.addClient(2, 4, 1, 1), 6);
        clientRow(x, 6, 2, 4, 1, 1, 0, 1, 0, -2, -1, 0);
        DUE.is("creates an instance, whatever the name", x.addClient(3, 0, 99, 0), 7);
        clientRow(x, 7, 3, 0, -2, 0, 0, -2, 0, -2, -2, -2);
        DUE.is("extends a class", x.addClient(4, 4, -1, 2), 8);
        clientRow(x, 8, 4, 4, -2, 2, 0, -2, 0, -2, -2, -2);
        x.setMember(0, 4, 1, 0);
        DUE.is("implements an interface", x.addClient(5, 2, 8, 2), 9);
        clientRow(x, 9, 5, 2, -2, 2, 0, -2, 0, -2, -2, -2);
        x.setMember(0, 2, 1, 1);
        x.draft(-1, 0, 0, 0);
        DUE.is("calls a static method", x.addClient(2, 4, 0, 2), 10);
        clientRow(x, 10, 2, 4, 0, 2, 0, 0, 0, -2, -1, 1);
        x.draft(3, 0, 0, 0);
        x.addField(0, 2, 5, 3, 3);
        DUE.is("reads a static field without a constant", x.addClient(0, 3, 5, 2), 11);
        clientRow(x, 11, 0, 3, 5, 2, 0, -2, 0, -2, 3, 1);
        DUE.is("clients()", x.clients(), 12);
        DUE.is("undo", x.undo(), 4);
        DUE.is("undo", x.undo(), 3);
        DUE.is("clients()", x.clients(), 11);
    }

    private static void addClientRefused() {
        CompatibilityJudge x = new CompatibilityJudge();
        DUE.argument(x, "addClient, use -1", () -> x.addClient(-1, 1, 0, 0));
        DUE.argument(x, "addClient, use 6", () -> x.addClient(6, 1, 0, 0));
        DUE.argument(x, "addClient, class -1", () -> x.addClient(0, -1, 0, 0));
        DUE.argument(x, "addClient, class 10", () -> x.addClient(0, 10, 0, 0));
        DUE.argument(x, "addClient, no class", () -> x.addClient(0, 5, 0, 0));
        DUE.argument(x, "addClient, package -1", () -> x.addClient(0, 1, 0, -1));
        DUE.argument(x, "addClient, package 4", () -> x.addClient(0, 1, 0, 4));
        for (int use = 0; use <= 2; use++) {
            int u = use;
            DUE.argument(x, "addClient, name -1", () -> x.addClient(u, 1, -1, 0));
            DUE.argument(x, "addClient, name 8", () -> x.addClient(u, 1, 8, 0));
        }
        DUE.argument(x, "addClient, no such field", () -> x.addClient(0, 1, 2, 0));
        DUE.argument(x, "addClient, writes a final field", () -> x.addClient(1, 1, 1, 0));
        DUE.argument(x, "addClient, creates an abstract class", () -> x.addClient(3, 4, 0, 0));
        DUE.argument(x, "addClient, extends an interface", () -> x.addClient(4, 2, 0, 0));
        DUE.argument(x, "addClient, implements a plain class", () -> x.addClient(5, 1, 0, 0));
        DUE.argument(x, "addClient, implements what it lacks", () -> x.addClient(5, 2, 0, 0));
        x.removeClass(1, 4);
        DUE.is("only version 0 counts", x.addClient(0, 4, 0, 0), 3);
    }

    private static void twelveClients() {
        CompatibilityJudge x = new CompatibilityJudge();
        for (int k = 3; k < 12; k++) {
            DUE.is("addClient to the limit", x.addClient(3, 1, 0, k % 4), k);
        }
        DUE.state(x, "addClient, 12 clients", () -> x.addClient(3, 1, 0, 0));
        DUE.argument(x, "addClient, 12 clients, no compiling", () -> x.addClient(3, 4, 0, 0));
        DUE.is("removeClient(11)", x.removeClient(11), 11);
        DUE.is("addClient", x.addClient(3, 3, 0, 0), 11);
        x.setClass(1, 3, 2, 1);
        DUE.is("sample goes on with 12 clients", x.sample(1, 0, 1), 3);
    }

    private static void setBase() {
        CompatibilityJudge x = new CompatibilityJudge();
        DUE.is("setBase(0, 1)", x.setBase(0, 1), 0);
        DUE.is("setBase(0, 1) again", x.setBase(0, 1), 1);
        DUE.is("setBase(0, 4)", x.setBase(0, 4), 1);
        clientRow(x, 0, 0, 3, 1, 2, 4, -2, 1, 7, -2, -2);
        DUE.is("undo", x.undo(), 2);
        clientRow(x, 0, 0, 3, 1, 2, 1, -2, 1, 7, -2, -2);
        x.define(0, 5, false, 1, 0);
        x.setClass(0, 5, 3, 2);
        DUE.is("a base of the client's package", x.setBase(1, 5), 0);
        DUE.is("the others stay", x.clientInfo(2, 4), 0);
    }

    private static void setBaseRefused() {
        CompatibilityJudge x = new CompatibilityJudge();
        DUE.bounds(x, "setBase, client 3, no class", () -> x.setBase(3, 5));
        DUE.bounds(x, "setBase, client -1", () -> x.setBase(-1, 1));
        DUE.argument(x, "setBase, no class", () -> x.setBase(0, 5));
        DUE.argument(x, "setBase, class -1", () -> x.setBase(0, -1));
        DUE.argument(x, "setBase, class 10", () -> x.setBase(0, 10));
        DUE.argument(x, "setBase, class 42", () -> x.setBase(0, 42));
        DUE.argument(x, "setBase, an interface", () -> x.setBase(0, 2));
        x.setClass(0, 3, 1, 1);
        DUE.argument(x, "setBase, a final class", () -> x.setBase(0, 3));
        x.setClass(0, 4, 0, 0);
        DUE.argument(x, "setBase, a class that is not open", () -> x.setBase(0, 4));
        x.define(1, 5, false, 1, 0);
        DUE.argument(x, "setBase, a class of version 1 alone", () -> x.setBase(0, 5));
        x.setClass(0, 3, 0, 0);
        DUE.argument(x, "setBase, the client does not compile any more", () -> x.setBase(0, 1));
    }

    private static void setBaseCompilesAnew() {
        CompatibilityJudge x = new CompatibilityJudge();
        x.draft(-1, 1, 3, 0);
        DUE.is("addClient", x.addClient(2, 4, 1, 2), 3);
        DUE.is("kept result", x.clientInfo(3, 8), -1);
        x.setMember(0, 1, 2, 9);
        DUE.is("the constant that is kept", x.clientInfo(0, 7), 7);
        x.setBase(0, 1);
        DUE.is("the new constant", x.clientInfo(0, 7), 9);
        x.setMember(0, 1, 2, -2);
        x.setBase(0, 0);
        clientRow(x, 0, 0, 3, 1, 2, 0, -2, 0, -2, -1, 1);
        // With base 1 the protected method of class 1 is open, and it is the only one for this argument.
        x.draft(-1, 1, 1, 0);
        DUE.argument(x, "addClient, a protected method", () -> x.addClient(2, 3, 1, 2));
        DUE.is("addClient in the package", x.addClient(2, 3, 1, 0), 4);
        x.setClass(0, 1, 3, 3);
        DUE.is("compile without the package", x.compile(4, 0), 3);
        DUE.argument(x, "setBase, still closed", () -> x.setBase(4, 0));
        DUE.is("setBase(4, 3)", x.setBase(4, 3), 0);
        DUE.is("compile with base 3", x.compile(4, 0), 0);
        DUE.is("undo", x.undo(), 4);
        DUE.is("compile with base 0", x.compile(4, 0), 3);
    }

    private static void removeClient() {
        CompatibilityJudge x = new CompatibilityJudge();
        DUE.bounds(x, "removeClient(3)", () -> x.removeClient(3));
        DUE.bounds(x, "removeClient(-1)", () -> x.removeClient(-1));
        x.setBase(2, 3);
        DUE.is("removeClient(0)", x.removeClient(0), 2);
        clientRow(x, 0, 2, 3, 2, 2, 0, 0, 0, -2, 1, 0);
        clientRow(x, 1, 2, 4, 0, 2, 3, 0, 0, -2, -1, 0);
        DUE.is("removeClient(1)", x.removeClient(1), 1);
        DUE.is("removeClient(0)", x.removeClient(0), 0);
        DUE.bounds(x, "removeClient(0), none left", () -> x.removeClient(0));
        DUE.is("clients()", x.clients(), 0);
        DUE.is("undo", x.undo(), 3);
        DUE.is("undo", x.undo(), 2);
        DUE.is("undo", x.undo(), 1);
        clientRow(x, 0, 0, 3, 1, 2, 0, -2, 1, 7, -2, -2);
        clientRow(x, 2, 2, 4, 0, 2, 3, 0, 0, -2, -1, 0);
        DUE.is("clients()", x.clients(), 3);
    }

    private static void clientInfo() {
        CompatibilityJudge x = new CompatibilityJudge();
        DUE.bounds(x, "clientInfo, client 3, what 10", () -> x.clientInfo(3, 10));
        DUE.bounds(x, "clientInfo, client -1", () -> x.clientInfo(-1, 0));
        DUE.argument(x, "clientInfo, what 10", () -> x.clientInfo(0, 10));
        DUE.argument(x, "clientInfo, what -1", () -> x.clientInfo(0, -1));
        x.draft(-1, 2, 1, 1);
        x.addMethod(0, 1, 7, 3, 1);
        x.draft(5, 2, 3, 4);
        x.addClient(2, 3, 7, 2);
        clientRow(x, 3, 2, 3, 7, 2, 0, 2, 0, -2, -1, 1);
    }
}

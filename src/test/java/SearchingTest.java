/** Promises 16 to 19: which type fits which, and the searches. */
public final class SearchingTest {
    private static final Due DUE = new Due("SearchingTest");

    public static void main(String[] args) {
        fits();
        field();
        fieldOrder();
        method();
        methodOfInterfaces();
        lowestClass();
        methodAsMemberZero();
        selected();
        selectedOfInterfaces();
        DUE.end();
    }

    private static void fits() {
        CompatibilityJudge x = new CompatibilityJudge();
        int[][] yes = {{-1, -1}, {0, 0}, {3, 0}, {3, 1}, {3, 2}, {3, 3}, {4, 1}, {2, 0}, {7, 7}, {9, 9}};
        for (int[] a : yes) {
            DUE.is("fits(0, " + a[0] + ", " + a[1] + ")", x.fits(0, a[0], a[1]), true);
        }
        int[][] no = {{-1, 0}, {0, -1}, {1, 3}, {4, 2}, {4, 3}, {2, 1}, {7, 0}, {0, 7}, {7, 8}, {-1, 9}, {9, -1}};
        for (int[] a : no) {
            DUE.is("fits(0, " + a[0] + ", " + a[1] + ")", x.fits(0, a[0], a[1]), false);
        }
        x.removeClass(1, 3);
        DUE.is("fits(1, 3, 1) without class 3", x.fits(1, 3, 1), false);
        DUE.is("fits(1, 3, 3) without class 3", x.fits(1, 3, 3), true);
        DUE.is("fits(0, 3, 1)", x.fits(0, 3, 1), true);
        DUE.bounds(x, "fits, version 2, type 10", () -> x.fits(2, 10, 0) ? 1 : 0);
        DUE.argument(x, "fits, one 10", () -> x.fits(0, 10, 0) ? 1 : 0);
        DUE.argument(x, "fits, one -2", () -> x.fits(0, -2, -2) ? 1 : 0);
        DUE.argument(x, "fits, other 10", () -> x.fits(0, 0, 10) ? 1 : 0);
        DUE.argument(x, "fits, other -2", () -> x.fits(0, 0, -2) ? 1 : 0);
    }

    private static void field() {
        CompatibilityJudge x = new CompatibilityJudge();
        DUE.is("field(0, 1, 0)", x.field(0, 1, 0), 0);
        DUE.is("field(0, 3, 1)", x.field(0, 3, 1), 1);
        DUE.is("field(0, 0, 0)", x.field(0, 0, 0), -2);
        DUE.is("field(0, 2, 0)", x.field(0, 2, 0), -2);
        DUE.is("field(0, 3, 2)", x.field(0, 3, 2), -2);
        x.draft(1, 0, 0, 0);
        DUE.is("field(0, 1, 0) of another type", x.field(0, 1, 0), -2);
        // A field of another type does not stop the search for the type.
        DUE.is("addField", x.addField(0, 3, 0, 0, 0), 8);
        DUE.is("field(0, 3, 0) of type 1", x.field(0, 3, 0), 8);
        x.draft(-1, 0, 0, 0);
        DUE.is("field(0, 3, 0) of type int", x.field(0, 3, 0), 0);
        DUE.bounds(x, "field, version 2", () -> x.field(2, 1, 0));
        DUE.bounds(x, "field, no class, name 8", () -> x.field(0, 5, 8));
        DUE.bounds(x, "field, class -1", () -> x.field(0, -1, 0));
        DUE.argument(x, "field, name 8", () -> x.field(0, 1, 8));
        DUE.argument(x, "field, name -1", () -> x.field(0, 1, -1));
    }

    /** The class itself, then its interfaces with all that is above them, then its superclass. */
    private static void fieldOrder() {
        CompatibilityJudge x = new CompatibilityJudge();
        x.define(0, 5, true, 0, 0);
        x.define(0, 6, true, 0, 4);
        x.define(0, 7, false, 1, 0x60);
        x.addField(0, 2, 0, 3, 3);
        DUE.is("an interface's interface before the superclass", x.field(0, 7, 0), 8);
        x.addField(0, 5, 0, 3, 3);
        DUE.is("the smaller interface first", x.field(0, 7, 0), 9);
        x.addField(0, 6, 0, 3, 3);
        DUE.is("still the smaller interface", x.field(0, 7, 0), 9);
        DUE.is("an interface's own field", x.field(0, 6, 0), 10);
        x.addField(0, 7, 0, 0, 0);
        DUE.is("the own field", x.field(0, 7, 0), 11);
        x.define(0, 8, false, 7, 4);
        DUE.is("interfaces before the superclass's own", x.field(0, 8, 0), 8);
        x.setClass(0, 8, 5, 0);
        DUE.is("the superclass's own", x.field(0, 8, 0), 11);
    }

    private static void method() {
        CompatibilityJudge x = new CompatibilityJudge();
        DUE.is("method(0, 3, 0)", x.method(0, 3, 0), 6);
        DUE.is("method(0, 4, 0)", x.method(0, 4, 0), 2);
        DUE.is("method(0, 0, 0)", x.method(0, 0, 0), -2);
        DUE.is("method(0, 3, 2) with another result", x.method(0, 3, 2), -2);
        x.draft(1, 0, 0, 0);
        DUE.is("method(0, 3, 2)", x.method(0, 3, 2), 5);
        DUE.is("method(0, 2, 2)", x.method(0, 2, 2), 4);
        x.draft(-1, 1, 3, 0);
        DUE.is("method(0, 4, 1)", x.method(0, 4, 1), 7);
        DUE.is("method(0, 3, 1)", x.method(0, 3, 1), -2);
        x.draft(-1, 1, 1, 0);
        DUE.is("method(0, 4, 1)", x.method(0, 4, 1), 3);
        // Private and static methods are found too, and stop the search.
        x.addMethod(0, 4, 1, 0, 0);
        DUE.is("a private method", x.method(0, 4, 1), 8);
        x.setMember(0, 8, 1, 1);
        DUE.is("a private static method", x.method(0, 4, 1), 8);
        DUE.bounds(x, "method, version 2", () -> x.method(2, 1, 0));
        DUE.bounds(x, "method, no class, name 8", () -> x.method(0, 5, 8));
        DUE.argument(x, "method, name 8", () -> x.method(0, 1, 8));
        DUE.argument(x, "method, name -1", () -> x.method(0, 1, -1));
    }

    private static void methodOfInterfaces() {
        CompatibilityJudge x = new CompatibilityJudge();
        x.draft(1, 0, 0, 0);
        x.define(0, 5, true, 0, 4);
        x.define(0, 6, true, 0, 4);
        x.define(0, 7, false, 1, 0x60);
        DUE.is("over two interfaces", x.method(0, 7, 2), 4);
        DUE.is("over an interface", x.method(0, 6, 2), 4);
        x.addMethod(0, 6, 2, 3, 4);
        DUE.is("the maximal one", x.method(0, 7, 2), 8);
        x.addMethod(0, 5, 2, 3, 4);
        DUE.is("two abstract ones: the lower class", x.method(0, 7, 2), 9);
        x.setMember(0, 8, 1, 0);
        DUE.is("the only one that is not abstract", x.method(0, 7, 2), 8);
        x.setMember(0, 9, 1, 0);
        DUE.is("two that are not abstract: the lower class", x.method(0, 7, 2), 9);
        x.setMember(0, 9, 1, 1);
        DUE.is("a static one is no candidate", x.method(0, 7, 2), 8);
        DUE.is("a static one of the interface itself", x.method(0, 5, 2), 9);
        x.setMember(0, 8, 1, 1);
        DUE.is("only that of interface 2 is left", x.method(0, 7, 2), 4);
        x.addMethod(0, 1, 2, 0, 0);
        DUE.is("a superclass before interfaces", x.method(0, 7, 2), 10);
        DUE.is("not for an interface", x.method(0, 6, 2), 8);
        x.define(0, 8, true, 0, 0);
        DUE.is("an interface without anything", x.method(0, 8, 2), -2);
    }

    /** The number of the class decides, not the number of the member. */
    private static void lowestClass() {
        CompatibilityJudge x = new CompatibilityJudge();
        x.define(0, 5, true, 0, 0);
        x.define(0, 6, true, 0, 0);
        x.define(0, 7, true, 0, 0);
        x.define(0, 8, false, 0, 0xE0);
        x.addMethod(0, 6, 3, 3, 4);
        x.addMethod(0, 5, 3, 3, 4);
        x.addMethod(0, 7, 3, 3, 4);
        DUE.is("three abstract ones", x.method(0, 8, 3), 9);
        x.setMember(0, 8, 1, 0);
        x.setMember(0, 10, 1, 0);
        DUE.is("two that are not abstract", x.method(0, 8, 3), 9);
        // Superclasses are gone through upward, in whatever order their methods were added.
        x.define(0, 9, false, 3, 0);
        x.addMethod(0, 9, 3, 3, 0);
        x.addMethod(0, 1, 3, 3, 0);
        x.addMethod(0, 3, 3, 3, 0);
        DUE.is("the class's own", x.method(0, 9, 3), 11);
        DUE.is("selected from above", x.selected(0, 12, 9), 11);
        x.setMember(0, 11, 0, 0);
        DUE.is("selected past a private one", x.selected(0, 12, 9), 13);
        x.removeMember(0, 11);
        DUE.is("the nearest superclass's", x.method(0, 9, 3), 12);
    }

    /** Member 0 is a method here, unlike at first. */
    private static void methodAsMemberZero() {
        CompatibilityJudge x = new CompatibilityJudge();
        for (int k = 0; k < 4; k++) {
            x.removeMember(0, 0);
        }
        x.draft(1, 0, 0, 0);
        DUE.is("an interface's abstract method", x.method(0, 2, 2), 0);
        x.removeMember(0, 1);
        DUE.is("over the interface", x.method(0, 3, 2), 0);
        DUE.is("incomplete", x.classInfo(0, 3, 9), 1);
        x.setMember(0, 0, 1, 0);
        DUE.is("the default", x.selected(0, 0, 3), 0);
        x.setMember(0, 0, 1, 4);
        x.moveMember(0, 0, 4);
        DUE.state(x, "not abstract any more", () -> x.setClass(0, 4, 2, 0));
        // Member 0 hides a method of class 1.
        x.setMember(0, 0, 1, 0);
        x.setMember(0, 0, 0, 2);
        x.addMethod(0, 1, 2, 3, 0);
        DUE.argument(x, "a call that finds nothing open", () -> x.addClient(2, 4, 2, 2));
    }

    private static void selected() {
        CompatibilityJudge x = new CompatibilityJudge();
        DUE.is("selected(0, 2, 1)", x.selected(0, 2, 1), 2);
        DUE.is("selected(0, 2, 3)", x.selected(0, 2, 3), 6);
        DUE.is("selected(0, 2, 4)", x.selected(0, 2, 4), 2);
        DUE.is("selected(0, 4, 3)", x.selected(0, 4, 3), 5);
        x.setMember(0, 2, 0, 0);
        DUE.is("a private method selects itself", x.selected(0, 2, 3), 2);
        x.setMember(0, 2, 0, 3);
        x.setMember(0, 6, 0, 0);
        DUE.is("a private method is passed over", x.selected(0, 2, 3), 2);
        x.setMember(0, 6, 0, 3);
        x.setMember(0, 6, 1, 1);
        DUE.is("a static method is passed over", x.selected(0, 2, 3), 2);
        DUE.bounds(x, "selected, version 2", () -> x.selected(2, 2, 1));
        DUE.bounds(x, "selected, member 8", () -> x.selected(0, 8, 1));
        DUE.bounds(x, "selected, member -1", () -> x.selected(0, -1, 1));
        DUE.bounds(x, "selected of a field, no class", () -> x.selected(0, 0, 5));
        DUE.argument(x, "selected of a field", () -> x.selected(0, 0, 1));
        DUE.argument(x, "selected of a static method", () -> x.selected(0, 6, 3));
        DUE.argument(x, "selected for an interface", () -> x.selected(0, 4, 2));
        DUE.argument(x, "selected for a class without the method", () -> x.selected(0, 4, 1));
        DUE.argument(x, "selected for a superclass", () -> x.selected(0, 5, 1));
        DUE.argument(x, "selected for class 0", () -> x.selected(0, 2, 0));
    }

    private static void selectedOfInterfaces() {
        CompatibilityJudge x = new CompatibilityJudge();
        x.draft(1, 0, 0, 0);
        x.define(0, 5, true, 0, 4);
        x.define(0, 6, true, 0, 4);
        x.define(0, 7, false, 1, 0x60);
        DUE.is("only an abstract one", x.selected(0, 4, 7), -2);
        x.addMethod(0, 5, 2, 3, 0);
        DUE.is("the default", x.selected(0, 4, 7), 8);
        x.setMember(0, 4, 1, 0);
        DUE.is("the maximal default", x.selected(0, 4, 7), 8);
        x.addMethod(0, 6, 2, 3, 4);
        DUE.is("the only maximal one that is not abstract", x.selected(0, 9, 7), 8);
        x.setMember(0, 9, 1, 0);
        DUE.is("two defaults", x.selected(0, 8, 7), -2);
        x.setClass(0, 7, 2, 1);
        x.addMethod(0, 7, 2, 3, 4);
        DUE.is("an abstract method of the class itself", x.selected(0, 8, 7), 10);
        x.draft(0, 0, 0, 0);
        x.removeMember(0, 10);
        x.addMethod(0, 7, 2, 3, 0);
        DUE.is("another result does not count", x.selected(0, 8, 7), -2);
    }
}

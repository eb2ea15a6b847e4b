/**
 * A tool for binary compatibility: two versions of a library of classes, and clients that were compiled with the
 * old one. Everything that a call needs is made in the constructor, so that no call makes an object.
 */
public final class CompatibilityJudge {
    public static final int NONE = -2;
    public static final int INT = -1;

    private static final int CLASS_LIMIT = 10;
    private static final int PACKAGE_LIMIT = 4;
    private static final int NAME_LIMIT = 8;
    private static final int MEMBER_LIMIT = 40;
    private static final int CLIENT_LIMIT = 12;
    private static final int SAVED_LIMIT = 5;
    private static final int PARAMETER_LIMIT = 2;
    private static final int CONSTANT_LIMIT = 99;

    private static final int OLD = 0;
    private static final int NEW = 1;
    private static final int VERSION_COUNT = 2;

    private static final int FIELD = 0;
    private static final int METHOD = 1;

    private static final int PRIVATE = 0;
    private static final int PROTECTED = 2;
    private static final int PUBLIC = 3;

    private static final int STATIC = 1;
    private static final int FINAL = 2;
    private static final int ABSTRACT = 4;

    /** Stands where a field is looked for by its name alone; no type is written so. */
    private static final int ANY_TYPE = -3;

    private static final int READS = 0;
    private static final int WRITES = 1;
    private static final int CALLS = 2;
    private static final int CREATES = 3;
    private static final int EXTENDS = 4;
    private static final int IMPLEMENTS = 5;

    private static final int VERDICT_FINE = 0;
    private static final int VERDICT_LINKING = 1;
    private static final int VERDICT_RUNNING = 2;
    private static final int VERDICT_COMPILING = 3;
    private static final int VERDICT_SILENT = 4;
    private static final int VERDICT_MOVED = 5;

    /** More clients than sample() can ever go through: uses, classes, names and lists of argument types. */
    private static final int SAMPLE_BOUND = 6 * 10 * 8 * 133;

    private static final long CHECKSUM_START = 17317L;
    private static final int CHECKSUM_NO_CLASS = -3;

    private final State now;
    private final State[] saved;
    private int oldestSaved;
    private int savedCount;
    private final Shape draftShape;
    /** A client that is tried before it is kept, so that a call which throws changes nothing. */
    private final Client probe;
    private final Compiler[] compilers;
    private final Linker[] linkers;

    /** The draft: a result type and up to two parameter types; a parameter that is not there is NONE. */
    private static final class Shape {
        int result = INT;
        int many = 0;
        int first = NONE;
        int second = NONE;

        void put(int newResult, int newMany, int newFirst, int newSecond) {
            result = newResult;
            many = newMany;
            first = newMany >= 1 ? newFirst : NONE;
            second = newMany >= 2 ? newSecond : NONE;
        }
    }

    /** The members of a version, as rows by the number of the member. */
    private static final class Members {
        /** Names and types packed into one number each, so that two methods are compared in one step. */
        static final int NO_KEY = -1;
        static final int TYPE_COUNT = 12;

        int size = 0;
        final int[] access = new int[MEMBER_LIMIT];
        final int[] flags = new int[MEMBER_LIMIT];
        final int[] constant = new int[MEMBER_LIMIT];
        final int[] kind = new int[MEMBER_LIMIT];
        final int[] owner = new int[MEMBER_LIMIT];
        final int[] name = new int[MEMBER_LIMIT];
        final int[] type = new int[MEMBER_LIMIT];
        final int[] many = new int[MEMBER_LIMIT];
        final int[] first = new int[MEMBER_LIMIT];
        final int[] second = new int[MEMBER_LIMIT];
        final int[] signature = new int[MEMBER_LIMIT];
        final int[] descriptor = new int[MEMBER_LIMIT];

        static int signatureOf(int itsName, int itsFirst, int itsSecond) {
            return (itsName * TYPE_COUNT + itsFirst - NONE) * TYPE_COUNT + itsSecond - NONE;
        }

        /** Holds the name too: methods are never searched by a descriptor without a name. */
        static int descriptorOf(int itsSignature, int result) {
            return itsSignature * TYPE_COUNT + result - NONE;
        }

        boolean isFull() {
            return size >= MEMBER_LIMIT;
        }

        /** The caller has looked whether there is room. */
        void append(int itsKind, int itsOwner, int itsName, int itsAccess, int itsFlags, Shape shape) {
            boolean isMethod = itsKind == METHOD;
            kind[size] = itsKind;
            owner[size] = itsOwner;
            name[size] = itsName;
            access[size] = itsAccess;
            flags[size] = itsFlags;
            constant[size] = NONE;
            type[size] = shape.result;
            many[size] = isMethod ? shape.many : NONE;
            first[size] = isMethod ? shape.first : NONE;
            second[size] = isMethod ? shape.second : NONE;
            signature[size] = isMethod ? signatureOf(itsName, shape.first, shape.second) : NO_KEY;
            descriptor[size] = isMethod ? descriptorOf(signature[size], shape.result) : NO_KEY;
            size++;
        }

        void dropAt(int m) {
            for (int k = m; k + 1 < size; k++) {
                moveRow(k + 1, k);
            }
            size--;
        }

        int dropAllOf(int c) {
            int kept = 0;
            for (int m = 0; m < size; m++) {
                if (owner[m] != c) {
                    moveRow(m, kept);
                    kept++;
                }
            }
            int dropped = size - kept;
            size = kept;
            return dropped;
        }

        private void moveRow(int from, int to) {
            access[to] = access[from];
            flags[to] = flags[from];
            constant[to] = constant[from];
            kind[to] = kind[from];
            owner[to] = owner[from];
            name[to] = name[from];
            type[to] = type[from];
            many[to] = many[from];
            first[to] = first[from];
            second[to] = second[from];
            signature[to] = signature[from];
            descriptor[to] = descriptor[from];
        }

        void copyFrom(Members other) {
            size = other.size;
            System.arraycopy(other.access, 0, access, 0, size);
            System.arraycopy(other.flags, 0, flags, 0, size);
            System.arraycopy(other.constant, 0, constant, 0, size);
            System.arraycopy(other.kind, 0, kind, 0, size);
            System.arraycopy(other.owner, 0, owner, 0, size);
            System.arraycopy(other.name, 0, name, 0, size);
            System.arraycopy(other.type, 0, type, 0, size);
            System.arraycopy(other.many, 0, many, 0, size);
            System.arraycopy(other.first, 0, first, 0, size);
            System.arraycopy(other.second, 0, second, 0, size);
            System.arraycopy(other.signature, 0, signature, 0, size);
            System.arraycopy(other.descriptor, 0, descriptor, 0, size);
        }

        boolean isAbstract(int m) {
            return (flags[m] & ABSTRACT) != 0;
        }

        boolean isStaticFinal(int m) {
            return (flags[m] & STATIC) != 0 && (flags[m] & FINAL) != 0;
        }

        int countOf(int c) {
            int found = 0;
            for (int m = 0; m < size; m++) {
                if (owner[m] == c) {
                    found++;
                }
            }
            return found;
        }

        boolean hasField(int c, int itsName) {
            for (int m = 0; m < size; m++) {
                if (owner[m] == c && kind[m] == FIELD && name[m] == itsName) {
                    return true;
                }
            }
            return false;
        }

        boolean hasMethod(int c, int itsSignature) {
            for (int m = 0; m < size; m++) {
                if (owner[m] == c && signature[m] == itsSignature) {
                    return true;
                }
            }
            return false;
        }

        boolean hasAbstract(int c) {
            for (int m = 0; m < size; m++) {
                if (owner[m] == c && isAbstract(m)) {
                    return true;
                }
            }
            return false;
        }

        int valueOf(int m, int what) {
            switch (what) {
                case 0: return access[m];
                case 1: return flags[m];
                case 2: return constant[m];
                case 3: return kind[m];
                case 4: return owner[m];
                case 5: return name[m];
                case 6: return type[m];
                case 7: return many[m];
                case 8: return first[m];
                default: return second[m];
            }
        }

        void putValue(int m, int what, int value) {
            switch (what) {
                case 0:
                    access[m] = value;
                    break;
                case 1:
                    flags[m] = value;
                    if (!isStaticFinal(m)) {
                        constant[m] = NONE;
                    }
                    break;
                default:
                    constant[m] = value;
            }
        }
    }

    /** One version: sets of classes as bit masks, rows by the number of the class, and the members. */
    private static final class Library {
        int existing = 0;
        int interfaceSet = 0;
        int publicSet = 0;
        int finalSet = 0;
        int abstractSet = 0;
        final int[] home = new int[CLASS_LIMIT];
        final int[] superclass = new int[CLASS_LIMIT];
        final int[] interfaces = new int[CLASS_LIMIT];
        /** Derived from superclass and interfaces; 0 for a class that does not exist. */
        final int[] supertypes = new int[CLASS_LIMIT];
        /** A class with its superclasses; because these have smaller numbers, the set tells their order too. */
        final int[] lineage = new int[CLASS_LIMIT];
        final Members members = new Members();
        /** For the search of a field: what each class finds, worked out from the smallest class upward. */
        private final int[] fieldFound = new int[CLASS_LIMIT];

        boolean isThere(int c) {
            return c >= 0 && c < CLASS_LIMIT && (existing >> c & 1) != 0;
        }

        boolean isInterface(int c) {
            return (interfaceSet >> c & 1) != 0;
        }

        boolean isFinal(int c) {
            return (finalSet >> c & 1) != 0;
        }

        boolean isAbstract(int c) {
            return (abstractSet >> c & 1) != 0;
        }

        boolean hasMember(int m) {
            return m >= 0 && m < members.size;
        }

        boolean canHaveSuperclass(int c, int value) {
            return value < c && isThere(value) && !isInterface(value) && !isFinal(value);
        }

        boolean canHaveInterfaces(int c, int value) {
            int smaller = (1 << c) - 1;
            return (value & ~(interfaceSet & smaller)) == 0;
        }

        boolean isSuperclass(int c) {
            for (int k = c + 1; k < CLASS_LIMIT; k++) {
                if (isThere(k) && superclass[k] == c) {
                    return true;
                }
            }
            return false;
        }

        boolean isSuperinterface(int c) {
            for (int k = c + 1; k < CLASS_LIMIT; k++) {
                if (isThere(k) && (interfaces[k] >> c & 1) != 0) {
                    return true;
                }
            }
            return false;
        }

        void putClass(int c, boolean asInterface, int itsSuperclass, int itsInterfaces) {
            takeClass(c);
            int bit = 1 << c;
            existing |= bit;
            if (asInterface) {
                interfaceSet |= bit;
                abstractSet |= bit;
            }
            home[c] = 0;
            superclass[c] = itsSuperclass;
            interfaces[c] = itsInterfaces;
            deriveSupertypes();
        }

        void takeClass(int c) {
            int others = ~(1 << c);
            existing &= others;
            interfaceSet &= others;
            publicSet &= others;
            finalSet &= others;
            abstractSet &= others;
            deriveSupertypes();
        }

        private void deriveSupertypes() {
            for (int c = 0; c < CLASS_LIMIT; c++) {
                supertypes[c] = 0;
                lineage[c] = 0;
                if (isThere(c)) {
                    deriveSupertypesOf(c);
                }
            }
        }

        private void deriveSupertypesOf(int c) {
            int above = superclass[c];
            supertypes[c] = 1 << c | 1;
            lineage[c] = 1 << c;
            if (above >= 0 && above < c) {
                supertypes[c] |= supertypes[above];
                lineage[c] |= isInterface(c) ? 0 : lineage[above];
            }
            for (int k = 0; k < c; k++) {
                if ((interfaces[c] >> k & 1) != 0) {
                    supertypes[c] |= supertypes[k];
                }
            }
        }

        void copyFrom(Library other) {
            existing = other.existing;
            interfaceSet = other.interfaceSet;
            publicSet = other.publicSet;
            finalSet = other.finalSet;
            abstractSet = other.abstractSet;
            System.arraycopy(other.home, 0, home, 0, CLASS_LIMIT);
            System.arraycopy(other.superclass, 0, superclass, 0, CLASS_LIMIT);
            System.arraycopy(other.interfaces, 0, interfaces, 0, CLASS_LIMIT);
            System.arraycopy(other.supertypes, 0, supertypes, 0, CLASS_LIMIT);
            System.arraycopy(other.lineage, 0, lineage, 0, CLASS_LIMIT);
            members.copyFrom(other.members);
        }

        int valueOf(int c, int what) {
            switch (what) {
                case 0: return publicSet >> c & 1;
                case 1: return finalSet >> c & 1;
                case 2: return abstractSet >> c & 1;
                case 3: return home[c];
                case 4: return superclass[c];
                case 5: return interfaces[c];
                case 6: return interfaceSet >> c & 1;
                case 7: return members.countOf(c);
                case 8: return supertypes[c];
                default: return isIncomplete(lineage[c], supertypes[c]) ? 1 : 0;
            }
        }

        void putValue(int c, int what, int value) {
            switch (what) {
                case 0:
                    publicSet = withBit(publicSet, c, value);
                    break;
                case 1:
                    finalSet = withBit(finalSet, c, value);
                    break;
                case 2:
                    abstractSet = withBit(abstractSet, c, value);
                    break;
                case 3:
                    home[c] = value;
                    break;
                case 4:
                    superclass[c] = value;
                    deriveSupertypes();
                    break;
                default:
                    interfaces[c] = value;
                    deriveSupertypes();
            }
        }

        private static int withBit(int set, int c, int value) {
            return value != 0 ? set | 1 << c : set & ~(1 << c);
        }

        boolean fitsType(int one, int other) {
            return one == other || one >= 0 && other >= 0 && (supertypes[one] >> other & 1) != 0;
        }

        boolean allowsField(int c, int access, int flags) {
            return flags >= 0 && flags <= (STATIC | FINAL)
                    && (!isInterface(c) || access == PUBLIC && flags == (STATIC | FINAL));
        }

        boolean allowsMethod(int c, int access, int flags) {
            if (flags < 0 || flags > (STATIC | FINAL | ABSTRACT)) {
                return false;
            }
            if ((flags & ABSTRACT) != 0 && (flags != ABSTRACT || access == PRIVATE || !isAbstract(c))) {
                return false;
            }
            return !isInterface(c) || access == PUBLIC && (flags & FINAL) == 0;
        }

        /** Whether a member as it is, but for its number, could stand in class c. */
        boolean allowsMember(int c, int m) {
            return members.kind[m] == FIELD
                    ? allowsField(c, members.access[m], members.flags[m])
                    : allowsMethod(c, members.access[m], members.flags[m]);
        }

        boolean isClassOpen(int c, int itsPackage) {
            return (publicSet >> c & 1) != 0 || home[c] == itsPackage;
        }

        boolean isMemberOpen(int m, Client client) {
            int access = members.access[m];
            int owner = members.owner[m];
            if (access == PUBLIC) {
                return true;
            }
            if (access != PRIVATE && home[owner] == client.home) {
                return true;
            }
            // A base that is not there has no supertypes, so it opens nothing.
            return access == PROTECTED && (supertypes[client.base] >> owner & 1) != 0;
        }

        /** The field of class c for a name and a type (or ANY_TYPE). */
        int fieldFor(int c, int name, int type) {
            for (int k = 0; k < CLASS_LIMIT; k++) {
                fieldFound[k] = NONE;
            }
            for (int m = 0; m < members.size; m++) {
                if (members.kind[m] == FIELD && members.name[m] == name
                        && (type == ANY_TYPE || members.type[m] == type)) {
                    fieldFound[members.owner[m]] = m;
                }
            }
            for (int k = 1; k <= c; k++) {
                if (fieldFound[k] == NONE && isThere(k)) {
                    fieldFound[k] = inheritedField(k);
                }
            }
            return fieldFound[c];
        }

        private int inheritedField(int c) {
            for (int k = 0; k < c; k++) {
                if ((interfaces[c] >> k & 1) != 0 && fieldFound[k] != NONE) {
                    return fieldFound[k];
                }
            }
            int above = superclass[c];
            return above >= 0 && above < c ? fieldFound[above] : NONE;
        }

        /** The method of class c for a descriptor. */
        int methodFor(int c, int descriptor) {
            int line = lineage[c];
            int found = NONE;
            int foundOwner = NONE;
            for (int m = 0; m < members.size; m++) {
                int owner = members.owner[m];
                if (members.descriptor[m] == descriptor && (line >> owner & 1) != 0 && owner > foundOwner) {
                    found = m;
                    foundOwner = owner;
                }
            }
            return found != NONE ? found : interfaceMethod(descriptor, supertypes[c] & interfaceSet & ~line, true);
        }

        /**
         * The selected method for a descriptor and a class that is told by its line of superclasses and by its
         * supertypes, because the class that a client would make has no number.
         */
        int selectedAlong(int descriptor, int line, int types) {
            int found = NONE;
            int foundOwner = NONE;
            for (int m = 0; m < members.size; m++) {
                int owner = members.owner[m];
                if (members.descriptor[m] == descriptor && (line >> owner & 1) != 0 && owner > foundOwner
                        && members.access[m] != PRIVATE && (members.flags[m] & STATIC) == 0) {
                    found = m;
                    foundOwner = owner;
                }
            }
            return found != NONE ? found : interfaceMethod(descriptor, types & interfaceSet & ~line, false);
        }

        /**
         * The only maximal candidate of the given interfaces that is not abstract; if there is no such only one,
         * the maximal candidate of the lowest class where that is wanted, otherwise NONE.
         */
        private int interfaceMethod(int descriptor, int among, boolean orLowest) {
            int candidates = 0;
            int covered = 0;
            for (int m = 0; m < members.size; m++) {
                int owner = members.owner[m];
                if (members.descriptor[m] == descriptor && (among >> owner & 1) != 0
                        && members.access[m] != PRIVATE && (members.flags[m] & STATIC) == 0) {
                    candidates |= 1 << owner;
                    covered |= supertypes[owner] & ~(1 << owner);
                }
            }
            int maximal = candidates & ~covered;
            int lowest = NONE;
            int lowestOwner = CLASS_LIMIT;
            int concrete = NONE;
            int concreteCount = 0;
            for (int m = 0; m < members.size; m++) {
                int owner = members.owner[m];
                if (members.descriptor[m] == descriptor && (maximal >> owner & 1) != 0) {
                    if (owner < lowestOwner) {
                        lowest = m;
                        lowestOwner = owner;
                    }
                    if ((members.flags[m] & ABSTRACT) == 0) {
                        concrete = m;
                        concreteCount++;
                    }
                }
            }
            if (concreteCount == 1) {
                return concrete;
            }
            return orLowest ? lowest : NONE;
        }

        /** As selectedAlong(), the class is told by its line of superclasses and by its supertypes. */
        boolean isIncomplete(int line, int types) {
            for (int m = 0; m < members.size; m++) {
                if ((types >> members.owner[m] & 1) != 0 && members.isAbstract(m)) {
                    int chosen = selectedAlong(members.descriptor[m], line, types);
                    if (chosen == NONE || members.isAbstract(chosen)) {
                        return true;
                    }
                }
            }
            return false;
        }
    }

    /** What a compiled client refers to, beside its class and name; what does not apply is NONE. */
    private static final class Symbol {
        boolean isConstant = false;
        int constant = NONE;
        int type = NONE;
        int isStatic = NONE;
        int first = NONE;
        int second = NONE;
        int isOfInterface = NONE;

        void clear() {
            isConstant = false;
            constant = NONE;
            type = NONE;
            isStatic = NONE;
            first = NONE;
            second = NONE;
            isOfInterface = NONE;
        }

        void copyFrom(Symbol other) {
            isConstant = other.isConstant;
            constant = other.constant;
            type = other.type;
            isStatic = other.isStatic;
            first = other.first;
            second = other.second;
            isOfInterface = other.isOfInterface;
        }

        boolean isSameAs(Symbol other) {
            return isConstant == other.isConstant && constant == other.constant && type == other.type
                    && isStatic == other.isStatic && first == other.first && second == other.second
                    && isOfInterface == other.isOfInterface;
        }
    }

    /** A client with the symbol that is kept; what its use does not have is NONE. */
    private static final class Client {
        int use = READS;
        int c = 0;
        int name = NONE;
        int home = 0;
        int base = 0;
        int many = NONE;
        int first = NONE;
        int second = NONE;
        final Symbol symbol = new Symbol();

        void put(int itsUse, int itsClass, int itsName, int itsPackage) {
            use = itsUse;
            c = itsClass;
            name = itsUse <= CALLS ? itsName : NONE;
            home = itsPackage;
            base = 0;
            many = itsUse == CALLS ? 0 : NONE;
            first = NONE;
            second = NONE;
            symbol.clear();
        }

        void putArguments(int itsMany, int itsFirst, int itsSecond) {
            many = itsMany;
            first = itsFirst;
            second = itsSecond;
        }

        /**
         * Becomes the next client in the order of sample(), and answers false behind the last one. A list of
         * arguments is not gone through where no method could be called with any of its length.
         */
        boolean advance(boolean skipsArguments) {
            if (use == CALLS && (!skipsArguments && nextTypes() || nextMany())) {
                return true;
            }
            if (use <= CALLS && name + 1 < NAME_LIMIT) {
                put(use, c, name + 1, home);
            } else if (c + 1 < CLASS_LIMIT) {
                put(use, c + 1, 0, home);
            } else if (use < IMPLEMENTS) {
                put(use + 1, 0, 0, home);
            } else {
                return false;
            }
            return true;
        }

        private boolean nextTypes() {
            if (many >= 2 && second + 1 < CLASS_LIMIT) {
                second++;
                return true;
            }
            if (many >= 1 && first + 1 < CLASS_LIMIT) {
                first++;
                second = many >= 2 ? INT : NONE;
                return true;
            }
            return false;
        }

        private boolean nextMany() {
            if (many >= PARAMETER_LIMIT) {
                return false;
            }
            many++;
            first = INT;
            second = many >= 2 ? INT : NONE;
            return true;
        }

        void copyFrom(Client other) {
            use = other.use;
            c = other.c;
            name = other.name;
            home = other.home;
            base = other.base;
            many = other.many;
            first = other.first;
            second = other.second;
            symbol.copyFrom(other.symbol);
        }

        int valueOf(int what) {
            switch (what) {
                case 0: return use;
                case 1: return c;
                case 2: return name;
                case 3: return home;
                case 4: return base;
                case 5: return many;
                case 6: return symbol.isConstant ? 1 : 0;
                case 7: return symbol.constant;
                case 8: return symbol.type;
                default: return symbol.isStatic;
            }
        }
    }

    /** All that undo() brings back. */
    private static final class State {
        final Library[] libraries = new Library[VERSION_COUNT];
        final Client[] uses = new Client[CLIENT_LIMIT];
        int size = 0;

        State() {
            for (int k = 0; k < VERSION_COUNT; k++) {
                libraries[k] = new Library();
            }
            for (int k = 0; k < CLIENT_LIMIT; k++) {
                uses[k] = new Client();
            }
        }

        void copyFrom(State other) {
            for (int k = 0; k < VERSION_COUNT; k++) {
                libraries[k].copyFrom(other.libraries[k]);
            }
            for (int k = 0; k < other.size; k++) {
                uses[k].copyFrom(other.uses[k]);
            }
            size = other.size;
        }

        /** The caller has looked whether there is room. */
        void append(Client client) {
            uses[size].copyFrom(client);
            size++;
        }

        void dropAt(int client) {
            for (int k = client; k + 1 < size; k++) {
                uses[k].copyFrom(uses[k + 1]);
            }
            size--;
        }
    }

    /** Compiles clients with one version. */
    private static final class Compiler {
        static final int NO_CLASS = 1;
        static final int CLASS_NOT_OPEN = 2;
        static final int NOT_FOUND = 3;
        static final int AMBIGUOUS = 4;
        static final int NOT_OPEN = 5;
        static final int WRONG_KIND = 6;
        static final int INCOMPLETE = 7;
        static final int WRONG_BASE = 8;

        final Library library;
        /** The symbol of the client that was compiled last; it counts only if there was no error. */
        final Symbol symbol = new Symbol();
        /** The applicable candidates of the call that was compiled last. */
        private final int[] applicable = new int[MEMBER_LIMIT];
        private int applicableCount = 0;
        /** Whether the call that was compiled last could have found a method with other argument types. */
        boolean hasNamesakes = false;

        Compiler(Library itsLibrary) {
            library = itsLibrary;
        }

        int errorOf(Client client) {
            symbol.clear();
            hasNamesakes = false;
            if (!library.isThere(client.c)) {
                return NO_CLASS;
            }
            if (!library.isClassOpen(client.c, client.home)) {
                return CLASS_NOT_OPEN;
            }
            switch (client.use) {
                case READS:
                case WRITES:
                    return fieldError(client);
                case CALLS:
                    return callError(client);
                case CREATES:
                    return library.isAbstract(client.c) ? WRONG_KIND : 0;
                case EXTENDS:
                    return extendingError(client.c);
                default:
                    return implementingError(client);
            }
        }

        private int fieldError(Client client) {
            int m = library.fieldFor(client.c, client.name, ANY_TYPE);
            if (m == NONE) {
                return NOT_FOUND;
            }
            if (!library.isMemberOpen(m, client)) {
                return NOT_OPEN;
            }
            if (client.use == WRITES && (library.members.flags[m] & FINAL) != 0) {
                return WRONG_KIND;
            }
            if (client.use == READS && library.members.constant[m] != NONE) {
                symbol.isConstant = true;
                symbol.constant = library.members.constant[m];
                return 0;
            }
            symbol.type = library.members.type[m];
            symbol.isStatic = library.members.flags[m] & STATIC;
            return 0;
        }

        private int callError(Client client) {
            gatherApplicable(client);
            if (applicableCount == 0) {
                return NOT_FOUND;
            }
            int m = bestApplicable();
            if (m == NONE) {
                return AMBIGUOUS;
            }
            symbol.type = library.members.type[m];
            symbol.first = library.members.first[m];
            symbol.second = library.members.second[m];
            symbol.isStatic = library.members.flags[m] & STATIC;
            symbol.isOfInterface = library.isInterface(client.c) ? 1 : 0;
            return 0;
        }

        private void gatherApplicable(Client client) {
            Members members = library.members;
            int types = library.supertypes[client.c];
            applicableCount = 0;
            for (int m = 0; m < members.size; m++) {
                if (members.kind[m] == METHOD && members.name[m] == client.name && members.many[m] == client.many
                        && (types >> members.owner[m] & 1) != 0) {
                    hasNamesakes = true;
                    if (library.fitsType(client.first, members.first[m])
                            && library.fitsType(client.second, members.second[m]) && isCandidate(m, client)) {
                        applicable[applicableCount] = m;
                        applicableCount++;
                    }
                }
            }
        }

        /** For a method of a supertype of the client's class, with the name and the number of parameters. */
        private boolean isCandidate(int m, Client client) {
            Members members = library.members;
            int owner = members.owner[m];
            if (members.access[m] == PRIVATE || !library.isMemberOpen(m, client)) {
                return false;
            }
            if ((members.flags[m] & STATIC) != 0 && library.isInterface(owner) && owner != client.c) {
                return false;
            }
            return !isHidden(m, library.supertypes[client.c]);
        }

        /** Whether a class between the client's class and the method's has a method with its signature. */
        private boolean isHidden(int m, int types) {
            Members members = library.members;
            int owner = members.owner[m];
            for (int k = 0; k < members.size; k++) {
                int other = members.owner[k];
                if (members.signature[k] == members.signature[m] && other != owner && (types >> other & 1) != 0
                        && (library.supertypes[other] >> owner & 1) != 0 && members.access[k] != PRIVATE) {
                    return true;
                }
            }
            return false;
        }

        private int bestApplicable() {
            int lowest = NONE;
            int concrete = NONE;
            int concreteCount = 0;
            for (int k = 0; k < applicableCount; k++) {
                int m = applicable[k];
                if (isBest(m)) {
                    if (lowest == NONE) {
                        lowest = m;
                    }
                    if (!library.members.isAbstract(m)) {
                        concrete = m;
                        concreteCount++;
                    }
                }
            }
            return concreteCount == 1 ? concrete : lowest;
        }

        private boolean isBest(int m) {
            Members members = library.members;
            for (int k = 0; k < applicableCount; k++) {
                int other = applicable[k];
                if (!library.fitsType(members.first[m], members.first[other])
                        || !library.fitsType(members.second[m], members.second[other])) {
                    return false;
                }
            }
            return true;
        }

        private int extendingError(int c) {
            if (library.isInterface(c) || library.isFinal(c)) {
                return WRONG_KIND;
            }
            return library.isIncomplete(library.lineage[c], library.supertypes[c]) ? INCOMPLETE : 0;
        }

        private int implementingError(Client client) {
            if (!library.isInterface(client.c)) {
                return WRONG_KIND;
            }
            if (!canBeBase(client.base, client.home)) {
                return WRONG_BASE;
            }
            // The client's own class has no members, so its line of superclasses is that of its base.
            int types = library.supertypes[client.base] | library.supertypes[client.c];
            return library.isIncomplete(library.lineage[client.base], types) ? INCOMPLETE : 0;
        }

        boolean canBeBase(int base, int itsPackage) {
            return library.isThere(base) && !library.isInterface(base) && !library.isFinal(base)
                    && library.isClassOpen(base, itsPackage);
        }
    }

    /** Links clients, with the symbols that they keep, with one version. */
    private static final class Linker {
        static final int NO_CLASS = 1;
        static final int NO_ACCESS = 2;
        static final int NO_FIELD = 3;
        static final int NO_METHOD = 4;
        static final int CHANGED_KIND = 5;
        static final int ABSTRACT_METHOD = 6;
        static final int ABSTRACT_CLASS = 7;

        final Library library;
        /** The target of the client that was linked last. */
        int targetClass = NONE;

        Linker(Library itsLibrary) {
            library = itsLibrary;
        }

        int errorOf(Client client) {
            targetClass = NONE;
            if (client.symbol.isConstant) {
                return 0;
            }
            if (!library.isThere(client.c)) {
                return NO_CLASS;
            }
            if (!library.isClassOpen(client.c, client.home)) {
                return NO_ACCESS;
            }
            switch (client.use) {
                case READS:
                case WRITES:
                    return fieldError(client);
                case CALLS:
                    return callError(client);
                case CREATES:
                    return library.isAbstract(client.c) ? ABSTRACT_CLASS : 0;
                case EXTENDS:
                    return extendingError(client.c);
                default:
                    return implementingError(client);
            }
        }

        private int fieldError(Client client) {
            int m = library.fieldFor(client.c, client.name, client.symbol.type);
            if (m == NONE) {
                return NO_FIELD;
            }
            if (!library.isMemberOpen(m, client)) {
                return NO_ACCESS;
            }
            int flags = library.members.flags[m];
            if ((flags & STATIC) != client.symbol.isStatic) {
                return CHANGED_KIND;
            }
            if (client.use == WRITES && (flags & FINAL) != 0) {
                return NO_ACCESS;
            }
            targetClass = library.members.owner[m];
            return 0;
        }

        private int callError(Client client) {
            Symbol symbol = client.symbol;
            if ((library.isInterface(client.c) ? 1 : 0) != symbol.isOfInterface) {
                return CHANGED_KIND;
            }
            int signature = Members.signatureOf(client.name, symbol.first, symbol.second);
            int descriptor = Members.descriptorOf(signature, symbol.type);
            int m = library.methodFor(client.c, descriptor);
            if (m == NONE) {
                return NO_METHOD;
            }
            // A private member is never open to a client.
            if (!library.isMemberOpen(m, client)) {
                return NO_ACCESS;
            }
            int isStatic = library.members.flags[m] & STATIC;
            if (isStatic != symbol.isStatic) {
                return CHANGED_KIND;
            }
            if (isStatic == 0 && !runs(client.c, descriptor)) {
                return ABSTRACT_METHOD;
            }
            targetClass = library.members.owner[m];
            return 0;
        }

        /** An abstract class has no instances of its own, so a call through it can't fail for what it lacks. */
        private boolean runs(int c, int descriptor) {
            if (library.isInterface(c) || library.isAbstract(c)) {
                return true;
            }
            int chosen = library.selectedAlong(descriptor, library.lineage[c], library.supertypes[c]);
            return chosen != NONE && !library.members.isAbstract(chosen);
        }

        private int extendingError(int c) {
            if (library.isInterface(c) || library.isFinal(c)) {
                return CHANGED_KIND;
            }
            return library.isIncomplete(library.lineage[c], library.supertypes[c]) ? ABSTRACT_METHOD : 0;
        }

        private int implementingError(Client client) {
            if (!library.isInterface(client.c)) {
                return CHANGED_KIND;
            }
            if (!library.isThere(client.base)) {
                return NO_CLASS;
            }
            if (!library.isClassOpen(client.base, client.home)) {
                return NO_ACCESS;
            }
            if (library.isInterface(client.base) || library.isFinal(client.base)) {
                return CHANGED_KIND;
            }
            int types = library.supertypes[client.base] | library.supertypes[client.c];
            return library.isIncomplete(library.lineage[client.base], types) ? ABSTRACT_METHOD : 0;
        }
    }

    public CompatibilityJudge() {
        now = new State();
        saved = new State[SAVED_LIMIT];
        for (int k = 0; k < SAVED_LIMIT; k++) {
            saved[k] = new State();
        }
        oldestSaved = 0;
        savedCount = 0;
        draftShape = new Shape();
        probe = new Client();
        compilers = new Compiler[VERSION_COUNT];
        linkers = new Linker[VERSION_COUNT];
        for (int k = 0; k < VERSION_COUNT; k++) {
            compilers[k] = new Compiler(now.libraries[k]);
            linkers[k] = new Linker(now.libraries[k]);
        }
        buildFirstClasses(now.libraries[OLD]);
        buildFirstMembers(now.libraries[OLD].members);
        now.libraries[NEW].copyFrom(now.libraries[OLD]);
        buildFirstClients();
    }

    private static void buildFirstClasses(Library library) {
        library.putClass(0, false, NONE, 0);
        library.putClass(1, false, 0, 0);
        library.putClass(2, true, 0, 0);
        library.putClass(3, false, 1, 1 << 2);
        library.putClass(4, false, 1, 0);
        for (int c = 0; c <= 4; c++) {
            library.putValue(c, 0, 1);
        }
        library.putValue(4, 2, 1);
        library.putValue(4, 3, 1);
    }

    private static void buildFirstMembers(Members members) {
        Shape shape = new Shape();
        members.append(FIELD, 1, 0, PUBLIC, 0, shape);
        members.append(FIELD, 1, 1, PUBLIC, STATIC | FINAL, shape);
        members.putValue(1, 2, 7);
        members.append(METHOD, 1, 0, PUBLIC, 0, shape);
        shape.put(INT, 1, 1, NONE);
        members.append(METHOD, 1, 1, PROTECTED, 0, shape);
        shape.put(1, 0, NONE, NONE);
        members.append(METHOD, 2, 2, PUBLIC, ABSTRACT, shape);
        members.append(METHOD, 3, 2, PUBLIC, 0, shape);
        shape.put(INT, 0, NONE, NONE);
        members.append(METHOD, 3, 0, PUBLIC, 0, shape);
        shape.put(INT, 1, 3, NONE);
        members.append(METHOD, 4, 1, PUBLIC, 0, shape);
    }

    private void buildFirstClients() {
        probe.put(READS, 3, 1, 2);
        compileProbe();
        now.append(probe);
        probe.put(CALLS, 3, 2, 2);
        compileProbe();
        now.append(probe);
        probe.put(CALLS, 4, 0, 2);
        compileProbe();
        now.append(probe);
    }

    // ---- classes

    public int define(int version, int c, boolean isInterface, int superclass, int interfaces)
            throws IndexOutOfBoundsException, IllegalArgumentException, IllegalStateException {
        Library library = libraryOf(version);
        if (c < 1 || c >= CLASS_LIMIT) {
            throw new IndexOutOfBoundsException("a class that can be defined is 1 to 9");
        }
        if (!isInterface && !library.canHaveSuperclass(c, superclass)) {
            throw new IllegalArgumentException("not a superclass for this class");
        }
        if (!library.canHaveInterfaces(c, interfaces)) {
            throw new IllegalArgumentException("not interfaces for this class");
        }
        if (library.isThere(c)) {
            throw new IllegalStateException("the class exists already");
        }
        saveState();
        library.putClass(c, isInterface, isInterface ? 0 : superclass, interfaces);
        return Integer.bitCount(library.existing);
    }

    public int removeClass(int version, int c) throws IndexOutOfBoundsException, IllegalStateException {
        Library library = libraryWith(version, c);
        if (c == 0) {
            throw new IllegalStateException("class 0 always exists");
        }
        if (library.isSuperclass(c) || library.isSuperinterface(c)) {
            throw new IllegalStateException("another class needs this class");
        }
        saveState();
        library.takeClass(c);
        return library.members.dropAllOf(c);
    }

    public int setClass(int version, int c, int what, int value)
            throws IndexOutOfBoundsException, IllegalArgumentException, IllegalStateException {
        Library library = libraryWith(version, c);
        if (!isClassValue(library, c, what, value)) {
            throw new IllegalArgumentException("no such property or value");
        }
        if (c == 0) {
            throw new IllegalStateException("class 0 never changes");
        }
        if (library.isInterface(c) && (what == 1 || what == 2 || what == 4)) {
            throw new IllegalStateException("an interface has no such choice");
        }
        if (what == 1 && value == 1 && library.isSuperclass(c)) {
            throw new IllegalStateException("a superclass is never final");
        }
        if (what == 2 && value == 0 && library.members.hasAbstract(c)) {
            throw new IllegalStateException("the class has an abstract method");
        }
        saveState();
        int before = library.valueOf(c, what);
        library.putValue(c, what, value);
        return before;
    }

    private static boolean isClassValue(Library library, int c, int what, int value) {
        switch (what) {
            case 0:
            case 1:
            case 2:
                return value == 0 || value == 1;
            case 3:
                return value >= 0 && value < PACKAGE_LIMIT;
            case 4:
                return library.isInterface(c) || library.canHaveSuperclass(c, value);
            case 5:
                return library.canHaveInterfaces(c, value);
            default:
                return false;
        }
    }

    public boolean exists(int version, int c) throws IndexOutOfBoundsException {
        Library library = libraryOf(version);
        if (c < 0 || c >= CLASS_LIMIT) {
            throw new IndexOutOfBoundsException("the number of a class is 0 to 9");
        }
        return library.isThere(c);
    }

    public int classInfo(int version, int c, int what) throws IndexOutOfBoundsException, IllegalArgumentException {
        Library library = libraryWith(version, c);
        requireInfo(what);
        return library.valueOf(c, what);
    }

    public int copyVersion() {
        saveState();
        now.libraries[NEW].copyFrom(now.libraries[OLD]);
        return now.libraries[NEW].members.size;
    }

    // ---- members

    public int draft(int result, int many, int first, int second) throws IllegalArgumentException {
        if (many < 0 || many > PARAMETER_LIMIT) {
            throw new IllegalArgumentException("a method has 0 to 2 parameters");
        }
        if (!isType(result) || many >= 1 && !isType(first) || many >= 2 && !isType(second)) {
            throw new IllegalArgumentException("a type is -1 to 9");
        }
        int before = draftShape.many;
        draftShape.put(result, many, first, second);
        return before;
    }

    public int addField(int version, int c, int name, int access, int flags)
            throws IndexOutOfBoundsException, IllegalArgumentException, IllegalStateException {
        Library library = libraryWith(version, c);
        if (!isName(name) || !isAccess(access) || !library.allowsField(c, access, flags)) {
            throw new IllegalArgumentException("no such field can be in this class");
        }
        if (c == 0 || library.members.hasField(c, name) || library.members.isFull()) {
            throw new IllegalStateException("there is no room for this field");
        }
        saveState();
        library.members.append(FIELD, c, name, access, flags, draftShape);
        return library.members.size - 1;
    }

    public int addMethod(int version, int c, int name, int access, int flags)
            throws IndexOutOfBoundsException, IllegalArgumentException, IllegalStateException {
        Library library = libraryWith(version, c);
        if (!isName(name) || !isAccess(access) || !library.allowsMethod(c, access, flags)) {
            throw new IllegalArgumentException("no such method can be in this class");
        }
        int signature = Members.signatureOf(name, draftShape.first, draftShape.second);
        if (c == 0 || library.members.hasMethod(c, signature) || library.members.isFull()) {
            throw new IllegalStateException("there is no room for this method");
        }
        saveState();
        library.members.append(METHOD, c, name, access, flags, draftShape);
        return library.members.size - 1;
    }

    public int removeMember(int version, int member) throws IndexOutOfBoundsException {
        Library library = libraryWithMember(version, member);
        saveState();
        library.members.dropAt(member);
        return library.members.size;
    }

    public int setMember(int version, int member, int what, int value)
            throws IndexOutOfBoundsException, IllegalArgumentException {
        Library library = libraryWithMember(version, member);
        if (!isMemberValue(library, member, what, value)) {
            throw new IllegalArgumentException("no such property or value");
        }
        saveState();
        int before = library.members.valueOf(member, what);
        library.members.putValue(member, what, value);
        return before;
    }

    private static boolean isMemberValue(Library library, int member, int what, int value) {
        Members members = library.members;
        int c = members.owner[member];
        boolean isField = members.kind[member] == FIELD;
        int access = members.access[member];
        int flags = members.flags[member];
        switch (what) {
            case 0:
                return isAccess(value)
                        && (isField ? library.allowsField(c, value, flags) : library.allowsMethod(c, value, flags));
            case 1:
                return isField ? library.allowsField(c, access, value) : library.allowsMethod(c, access, value);
            case 2:
                return isField && (value == NONE || isConstantValue(value)
                        && members.isStaticFinal(member) && members.type[member] == INT);
            default:
                return false;
        }
    }

    public int moveMember(int version, int member, int c)
            throws IndexOutOfBoundsException, IllegalArgumentException, IllegalStateException {
        Library library = libraryWithMember(version, member);
        if (!library.isThere(c)) {
            throw new IndexOutOfBoundsException("no such class");
        }
        if (!library.allowsMember(c, member)) {
            throw new IllegalArgumentException("the member can't be in this class");
        }
        Members members = library.members;
        boolean isTaken = members.kind[member] == FIELD
                ? members.hasField(c, members.name[member])
                : members.hasMethod(c, members.signature[member]);
        if (c == 0 || isTaken) {
            throw new IllegalStateException("there is no room for the member");
        }
        saveState();
        int before = members.owner[member];
        members.owner[member] = c;
        return before;
    }

    public int members(int version) throws IndexOutOfBoundsException {
        return libraryOf(version).members.size;
    }

    public int memberInfo(int version, int member, int what)
            throws IndexOutOfBoundsException, IllegalArgumentException {
        Library library = libraryWithMember(version, member);
        requireInfo(what);
        return library.members.valueOf(member, what);
    }

    // ---- searching

    public boolean fits(int version, int one, int other) throws IndexOutOfBoundsException, IllegalArgumentException {
        Library library = libraryOf(version);
        if (!isType(one) || !isType(other)) {
            throw new IllegalArgumentException("a type is -1 to 9");
        }
        return library.fitsType(one, other);
    }

    public int field(int version, int c, int name) throws IndexOutOfBoundsException, IllegalArgumentException {
        Library library = libraryWith(version, c);
        requireName(name);
        return library.fieldFor(c, name, draftShape.result);
    }

    public int method(int version, int c, int name) throws IndexOutOfBoundsException, IllegalArgumentException {
        Library library = libraryWith(version, c);
        requireName(name);
        int signature = Members.signatureOf(name, draftShape.first, draftShape.second);
        return library.methodFor(c, Members.descriptorOf(signature, draftShape.result));
    }

    public int selected(int version, int member, int c) throws IndexOutOfBoundsException, IllegalArgumentException {
        Library library = libraryWithMember(version, member);
        if (!library.isThere(c)) {
            throw new IndexOutOfBoundsException("no such class");
        }
        Members members = library.members;
        if (members.kind[member] == FIELD || (members.flags[member] & STATIC) != 0) {
            throw new IllegalArgumentException("a field or a static method is not selected");
        }
        if (library.isInterface(c) || (library.supertypes[c] >> members.owner[member] & 1) == 0) {
            throw new IllegalArgumentException("not a plain class that has the method");
        }
        if (members.access[member] == PRIVATE) {
            return member;
        }
        return library.selectedAlong(members.descriptor[member], library.lineage[c], library.supertypes[c]);
    }

    // ---- clients

    public int addClient(int use, int c, int name, int itsPackage)
            throws IllegalArgumentException, IllegalStateException {
        if (use < READS || use > IMPLEMENTS || c < 0 || c >= CLASS_LIMIT || !isPackage(itsPackage)) {
            throw new IllegalArgumentException("no such use, class or package");
        }
        if (use <= CALLS && !isName(name)) {
            throw new IllegalArgumentException("a name is 0 to 7");
        }
        probe.put(use, c, name, itsPackage);
        if (use == CALLS) {
            probe.putArguments(draftShape.many, draftShape.first, draftShape.second);
        }
        if (!compileProbe()) {
            throw new IllegalArgumentException("the client does not compile");
        }
        if (now.size >= CLIENT_LIMIT) {
            throw new IllegalStateException("there are 12 clients");
        }
        saveState();
        now.append(probe);
        return now.size - 1;
    }

    public int setBase(int client, int base) throws IndexOutOfBoundsException, IllegalArgumentException {
        Client user = clientAt(client);
        if (!compilers[OLD].canBeBase(base, user.home)) {
            throw new IllegalArgumentException("no base for this client");
        }
        probe.copyFrom(user);
        probe.base = base;
        if (!compileProbe()) {
            throw new IllegalArgumentException("the client does not compile with this base");
        }
        saveState();
        int before = user.base;
        user.copyFrom(probe);
        return before;
    }

    public int removeClient(int client) throws IndexOutOfBoundsException {
        requireClient(client);
        saveState();
        now.dropAt(client);
        return now.size;
    }

    public int clients() {
        return now.size;
    }

    public int clientInfo(int client, int what) throws IndexOutOfBoundsException, IllegalArgumentException {
        Client user = clientAt(client);
        requireInfo(what);
        return user.valueOf(what);
    }

    public int compile(int client, int version) throws IndexOutOfBoundsException {
        Client user = clientAt(client);
        requireVersion(version);
        return compilers[version].errorOf(user);
    }

    public int link(int client, int version) throws IndexOutOfBoundsException {
        Client user = clientAt(client);
        requireVersion(version);
        return linkers[version].errorOf(user);
    }

    public int target(int client, int version) throws IndexOutOfBoundsException {
        Client user = clientAt(client);
        requireVersion(version);
        return targetOf(user, version);
    }

    public int verdict(int client) throws IndexOutOfBoundsException {
        return verdictOf(clientAt(client));
    }

    public int count(int verdict) throws IllegalArgumentException {
        if (verdict < VERDICT_FINE || verdict > VERDICT_MOVED) {
            throw new IllegalArgumentException("a verdict is 0 to 5");
        }
        int found = 0;
        for (int k = 0; k < now.size; k++) {
            if (verdictOf(now.uses[k]) == verdict) {
                found++;
            }
        }
        return found;
    }

    public int sample(int verdict, int itsPackage, int what) throws IllegalArgumentException {
        if (verdict < VERDICT_LINKING || verdict > VERDICT_MOVED || !isPackage(itsPackage)) {
            throw new IllegalArgumentException("no such verdict or package");
        }
        if (what < 0 || what > 5) {
            throw new IllegalArgumentException("a property of a sample is 0 to 5");
        }
        probe.put(READS, 0, 0, itsPackage);
        for (int k = 0; k < SAMPLE_BOUND; k++) {
            if (compileProbe() && verdictOf(probe) == verdict) {
                return sampleValue(what);
            }
            if (!probe.advance(!compilers[OLD].hasNamesakes)) {
                return NONE;
            }
        }
        return NONE;
    }

    private int sampleValue(int what) {
        switch (what) {
            case 0: return probe.use;
            case 1: return probe.c;
            case 2: return probe.name;
            case 3: return probe.many;
            case 4: return probe.first;
            default: return probe.second;
        }
    }

    /** Gives the probe the symbol that it has with the old version, if it compiles. */
    private boolean compileProbe() {
        if (compilers[OLD].errorOf(probe) != 0) {
            return false;
        }
        probe.symbol.copyFrom(compilers[OLD].symbol);
        return true;
    }

    private int targetOf(Client user, int version) {
        linkers[version].errorOf(user);
        return linkers[version].targetClass;
    }

    private int verdictOf(Client user) {
        int error = linkers[NEW].errorOf(user);
        if (error != 0) {
            return error == Linker.ABSTRACT_METHOD ? VERDICT_RUNNING : VERDICT_LINKING;
        }
        if (compilers[NEW].errorOf(user) != 0) {
            return VERDICT_COMPILING;
        }
        if (!compilers[NEW].symbol.isSameAs(user.symbol)) {
            return VERDICT_SILENT;
        }
        if (linkers[OLD].errorOf(user) != 0 || linkers[OLD].targetClass != linkers[NEW].targetClass) {
            return VERDICT_MOVED;
        }
        return VERDICT_FINE;
    }

    // ---- undo, checksum

    public int undo() throws IllegalStateException {
        if (savedCount == 0) {
            throw new IllegalStateException("no state is saved");
        }
        savedCount--;
        now.copyFrom(saved[(oldestSaved + savedCount) % SAVED_LIMIT]);
        return savedCount;
    }

    public long checksum() {
        long sum = CHECKSUM_START;
        for (int version = 0; version < VERSION_COUNT; version++) {
            sum = withClasses(sum, now.libraries[version]);
            sum = withMembers(sum, now.libraries[version].members);
        }
        sum = withNumber(sum, now.size);
        for (int k = 0; k < now.size; k++) {
            sum = withClient(sum, now.uses[k]);
        }
        sum = withNumber(sum, draftShape.result);
        sum = withNumber(sum, draftShape.many);
        return withNumber(sum, savedCount);
    }

    private static long withNumber(long sum, int number) {
        return 31L * sum + number;
    }

    private static long withClasses(long before, Library library) {
        long sum = before;
        for (int c = 0; c < CLASS_LIMIT; c++) {
            if (library.isThere(c)) {
                for (int what = 0; what <= 9; what++) {
                    sum = withNumber(sum, library.valueOf(c, what));
                }
            } else {
                sum = withNumber(sum, CHECKSUM_NO_CLASS);
            }
        }
        return sum;
    }

    private static long withMembers(long before, Members members) {
        long sum = withNumber(before, members.size);
        for (int m = 0; m < members.size; m++) {
            for (int what = 0; what <= 9; what++) {
                sum = withNumber(sum, members.valueOf(m, what));
            }
        }
        return sum;
    }

    private long withClient(long before, Client user) {
        long sum = before;
        for (int what = 0; what <= 9; what++) {
            sum = withNumber(sum, user.valueOf(what));
        }
        sum = withNumber(sum, compilers[OLD].errorOf(user));
        sum = withNumber(sum, compilers[NEW].errorOf(user));
        sum = withNumber(sum, linkers[OLD].errorOf(user));
        sum = withNumber(sum, linkers[NEW].errorOf(user));
        sum = withNumber(sum, targetOf(user, OLD));
        sum = withNumber(sum, targetOf(user, NEW));
        return withNumber(sum, verdictOf(user));
    }

    /** Called when nothing can be refused any more, and before anything changes. */
    private void saveState() {
        int slot = (oldestSaved + savedCount) % SAVED_LIMIT;
        if (savedCount == SAVED_LIMIT) {
            oldestSaved = (oldestSaved + 1) % SAVED_LIMIT;
        } else {
            savedCount++;
        }
        saved[slot].copyFrom(now);
    }

    // ---- what a call may be given

    private static void requireVersion(int version) {
        if (version < 0 || version >= VERSION_COUNT) {
            throw new IndexOutOfBoundsException("a version is 0 or 1");
        }
    }

    private Library libraryOf(int version) {
        requireVersion(version);
        return now.libraries[version];
    }

    private Library libraryWith(int version, int c) {
        Library library = libraryOf(version);
        if (!library.isThere(c)) {
            throw new IndexOutOfBoundsException("no such class");
        }
        return library;
    }

    private Library libraryWithMember(int version, int member) {
        Library library = libraryOf(version);
        if (!library.hasMember(member)) {
            throw new IndexOutOfBoundsException("no such member");
        }
        return library;
    }

    private void requireClient(int client) {
        if (client < 0 || client >= now.size) {
            throw new IndexOutOfBoundsException("no such client");
        }
    }

    private Client clientAt(int client) {
        requireClient(client);
        return now.uses[client];
    }

    private static void requireInfo(int what) {
        if (what < 0 || what > 9) {
            throw new IllegalArgumentException("a property is 0 to 9");
        }
    }

    private static void requireName(int name) {
        if (!isName(name)) {
            throw new IllegalArgumentException("a name is 0 to 7");
        }
    }

    private static boolean isName(int name) {
        return name >= 0 && name < NAME_LIMIT;
    }

    private static boolean isAccess(int access) {
        return access >= PRIVATE && access <= PUBLIC;
    }

    private static boolean isPackage(int itsPackage) {
        return itsPackage >= 0 && itsPackage < PACKAGE_LIMIT;
    }

    private static boolean isType(int type) {
        return type >= INT && type < CLASS_LIMIT;
    }

    private static boolean isConstantValue(int value) {
        return value >= -CONSTANT_LIMIT && value <= CONSTANT_LIMIT;
    }
}

import java.util.ArrayDeque;
import java.util.ArrayList;
import java.util.List;
import java.util.Objects;
import java.util.TreeSet;

/**
 * The document once more, written as its words stand and without regard to speed: objects, lists and recursion in
 * place of the program's rows and bit masks. The random runs compare the program with it.
 */
final class Reference {
    static final int NONE = -2;

    static final class Clazz {
        int number;
        boolean isInterface;
        boolean isPublic;
        boolean isFinal;
        boolean isAbstract;
        int pack;
        int superclass = NONE;
        TreeSet<Integer> interfaces = new TreeSet<>();

        Clazz copy() {
            Clazz k = new Clazz();
            k.number = number;
            k.isInterface = isInterface;
            k.isPublic = isPublic;
            k.isFinal = isFinal;
            k.isAbstract = isAbstract;
            k.pack = pack;
            k.superclass = superclass;
            k.interfaces = new TreeSet<>(interfaces);
            return k;
        }
    }

    static final class Member {
        boolean isMethod;
        int owner;
        int name;
        int access;
        boolean isStatic;
        boolean isFinal;
        boolean isAbstract;
        int type;
        Integer constant;
        List<Integer> parameters = List.of();

        Member copy() {
            Member m = new Member();
            m.isMethod = isMethod;
            m.owner = owner;
            m.name = name;
            m.access = access;
            m.isStatic = isStatic;
            m.isFinal = isFinal;
            m.isAbstract = isAbstract;
            m.type = type;
            m.constant = constant;
            m.parameters = parameters;
            return m;
        }

        int flags() {
            return (isStatic ? 1 : 0) + (isFinal ? 2 : 0) + (isAbstract ? 4 : 0);
        }

        void flags(int value) {
            isStatic = value % 2 == 1;
            isFinal = value / 2 % 2 == 1;
            isAbstract = value / 4 % 2 == 1;
        }

        boolean sameSignature(Member o) {
            return isMethod && o.isMethod && name == o.name && parameters.equals(o.parameters);
        }

        boolean sameDescriptor(Member o) {
            return sameSignature(o) && type == o.type;
        }

        boolean isVirtual() {
            return !isStatic && access != 0;
        }
    }

    record Sym(boolean isConstant, int constant, int name, Integer type, Boolean isStatic,
               List<Integer> parameters, Boolean ofInterface) {
    }

    static final class User {
        int use;
        int c;
        int name;
        int pack;
        int base;
        List<Integer> arguments = List.of();
        Sym symbol;

        User copy() {
            User u = new User();
            u.use = use;
            u.c = c;
            u.name = name;
            u.pack = pack;
            u.base = base;
            u.arguments = arguments;
            u.symbol = symbol;
            return u;
        }
    }

    static final class Version {
        Clazz[] classes = new Clazz[10];
        List<Member> members = new ArrayList<>();

        Version copy() {
            Version v = new Version();
            for (int i = 0; i < 10; i++) {
                v.classes[i] = classes[i] == null ? null : classes[i].copy();
            }
            for (Member m : members) {
                v.members.add(m.copy());
            }
            return v;
        }

        boolean has(int c) {
            return c >= 0 && c <= 9 && classes[c] != null;
        }

        TreeSet<Integer> supertypes(Clazz k) {
            TreeSet<Integer> all = new TreeSet<>();
            all.add(k.number);
            all.add(0);
            if (k.superclass != NONE) {
                all.addAll(supertypes(classes[k.superclass]));
            }
            for (int i : k.interfaces) {
                all.addAll(supertypes(classes[i]));
            }
            return all;
        }

        boolean isSupertype(int above, int below) {
            return supertypes(classes[below]).contains(above);
        }

        boolean fits(int one, int other) {
            if (one == other) {
                return true;
            }
            return has(one) && has(other) && isSupertype(other, one);
        }

        Member field(int c, int name, Integer type) {
            for (Member m : members) {
                if (!m.isMethod && m.owner == c && m.name == name && (type == null || m.type == type)) {
                    return m;
                }
            }
            for (int i : classes[c].interfaces) {
                Member m = field(i, name, type);
                if (m != null) {
                    return m;
                }
            }
            return classes[c].superclass == NONE ? null : field(classes[c].superclass, name, type);
        }

        List<Member> maximal(Member like, Clazz k) {
            List<Member> candidates = new ArrayList<>();
            for (Member m : members) {
                if (m.sameDescriptor(like) && m.isVirtual() && m.owner != k.number
                        && classes[m.owner].isInterface && supertypes(k).contains(m.owner)) {
                    candidates.add(m);
                }
            }
            List<Member> result = new ArrayList<>();
            for (Member m : candidates) {
                boolean isMaximal = true;
                for (Member o : candidates) {
                    if (o != m && isSupertype(m.owner, o.owner)) {
                        isMaximal = false;
                    }
                }
                if (isMaximal) {
                    result.add(m);
                }
            }
            return result;
        }

        static Member onlyConcrete(List<Member> list) {
            List<Member> concrete = new ArrayList<>(list);
            concrete.removeIf(m -> m.isAbstract);
            return concrete.size() == 1 ? concrete.get(0) : null;
        }

        Member own(Member like, int c) {
            for (Member m : members) {
                if (m.owner == c && m.sameDescriptor(like)) {
                    return m;
                }
            }
            return null;
        }

        Member method(Member like, int c) {
            if (classes[c].isInterface) {
                Member m = own(like, c);
                if (m != null) {
                    return m;
                }
            } else {
                for (int k = c; k != NONE; k = classes[k].superclass) {
                    Member m = own(like, k);
                    if (m != null) {
                        return m;
                    }
                }
            }
            List<Member> maximal = maximal(like, classes[c]);
            Member concrete = onlyConcrete(maximal);
            if (concrete != null) {
                return concrete;
            }
            Member lowest = null;
            for (Member m : maximal) {
                if (lowest == null || m.owner < lowest.owner) {
                    lowest = m;
                }
            }
            return lowest;
        }

        Member selected(Member m, Clazz r) {
            if (m.access == 0) {
                return m;
            }
            Clazz k = r;
            while (k != null) {
                Member o = own(m, k.number);
                if (o != null && o.isVirtual()) {
                    return o;
                }
                k = k.superclass == NONE ? null : classes[k.superclass];
            }
            return onlyConcrete(maximal(m, r));
        }

        boolean incomplete(Clazz k) {
            for (Member m : members) {
                if (m.isMethod && m.isAbstract && supertypes(k).contains(m.owner)) {
                    Member s = selected(m, k);
                    if (s == null || s.isAbstract) {
                        return true;
                    }
                }
            }
            return false;
        }

        boolean classOpen(int c, User u) {
            return classes[c].isPublic || classes[c].pack == u.pack;
        }

        boolean memberOpen(Member m, User u) {
            return m.access == 3 || m.access != 0 && classes[m.owner].pack == u.pack
                    || m.access == 2 && has(u.base) && isSupertype(m.owner, u.base);
        }

        boolean pairIncomplete(User u) {
            Clazz k = new Clazz();
            k.number = 99;
            k.superclass = u.base;
            k.interfaces.add(u.c);
            return incomplete(k);
        }
    }

    static final class Saved {
        Version[] versions = {new Version(), new Version()};
        List<User> users = new ArrayList<>();

        Saved copy() {
            Saved s = new Saved();
            s.versions = new Version[] {versions[0].copy(), versions[1].copy()};
            for (User u : users) {
                s.users.add(u.copy());
            }
            return s;
        }
    }

    private Saved now = new Saved();
    private final ArrayDeque<Saved> saved = new ArrayDeque<>();
    private int draftResult = -1;
    private List<Integer> draftParameters = List.of();
    private Sym lastSymbol;

    Reference() {
        Version v = now.versions[0];
        clazz(v, 0, false, NONE, 0);
        clazz(v, 1, false, 0, 0);
        clazz(v, 2, true, 0, 0);
        clazz(v, 3, false, 1, 4);
        clazz(v, 4, false, 1, 0);
        for (int c = 0; c < 5; c++) {
            v.classes[c].isPublic = true;
        }
        v.classes[4].isAbstract = true;
        v.classes[4].pack = 1;
        member(v, false, 1, 0, 3, 0, -1, List.of());
        member(v, false, 1, 1, 3, 3, -1, List.of()).constant = 7;
        member(v, true, 1, 0, 3, 0, -1, List.of());
        member(v, true, 1, 1, 2, 0, -1, List.of(1));
        member(v, true, 2, 2, 3, 4, 1, List.of());
        member(v, true, 3, 2, 3, 0, 1, List.of());
        member(v, true, 3, 0, 3, 0, -1, List.of());
        member(v, true, 4, 1, 3, 0, -1, List.of(3));
        now.versions[1] = v.copy();
        addClient(0, 3, 1, 2);
        addClient(2, 3, 2, 2);
        addClient(2, 4, 0, 2);
        saved.clear();
    }

    private static Clazz clazz(Version v, int c, boolean isInterface, int superclass, int interfaces) {
        Clazz k = new Clazz();
        k.number = c;
        k.isInterface = isInterface;
        k.isAbstract = isInterface;
        k.superclass = superclass;
        k.interfaces = set(interfaces);
        v.classes[c] = k;
        return k;
    }

    private static TreeSet<Integer> set(int mask) {
        TreeSet<Integer> set = new TreeSet<>();
        for (int i = 0; i < 32; i++) {
            if ((mask >>> i & 1) == 1) {
                set.add(i);
            }
        }
        return set;
    }

    private static int mask(TreeSet<Integer> set) {
        int mask = 0;
        for (int i : set) {
            mask += 1 << i;
        }
        return mask;
    }

    private static Member member(Version v, boolean isMethod, int owner, int name, int access, int flags, int type,
                                 List<Integer> parameters) {
        Member m = new Member();
        m.isMethod = isMethod;
        m.owner = owner;
        m.name = name;
        m.access = access;
        m.flags(flags);
        m.type = type;
        m.parameters = parameters;
        v.members.add(m);
        return m;
    }

    private void save() {
        saved.addLast(now.copy());
        if (saved.size() > 5) {
            saved.removeFirst();
        }
    }

    private Version version(int version) {
        if (version != 0 && version != 1) {
            throw new IndexOutOfBoundsException();
        }
        return now.versions[version];
    }

    private Version versionWith(int version, int c) {
        Version v = version(version);
        if (!v.has(c)) {
            throw new IndexOutOfBoundsException();
        }
        return v;
    }

    private Member member(int version, int member) {
        Version v = version(version);
        if (member < 0 || member >= v.members.size()) {
            throw new IndexOutOfBoundsException();
        }
        return v.members.get(member);
    }

    private User user(int client) {
        if (client < 0 || client >= now.users.size()) {
            throw new IndexOutOfBoundsException();
        }
        return now.users.get(client);
    }

    private static void argument(boolean isGood) {
        if (!isGood) {
            throw new IllegalArgumentException();
        }
    }

    private static void state(boolean isGood) {
        if (!isGood) {
            throw new IllegalStateException();
        }
    }

    private static boolean in(int value, int low, int high) {
        return low <= value && value <= high;
    }

    private static boolean goodSuperclass(Version v, int c, int superclass) {
        return v.has(superclass) && superclass < c && !v.classes[superclass].isInterface
                && !v.classes[superclass].isFinal;
    }

    private static boolean goodInterfaces(Version v, int c, int interfaces) {
        for (int i : set(interfaces)) {
            if (!v.has(i) || i >= c || !v.classes[i].isInterface) {
                return false;
            }
        }
        return true;
    }

    int define(int version, int c, boolean isInterface, int superclass, int interfaces) {
        Version v = version(version);
        if (!in(c, 1, 9)) {
            throw new IndexOutOfBoundsException();
        }
        argument(isInterface || goodSuperclass(v, c, superclass));
        argument(goodInterfaces(v, c, interfaces));
        state(!v.has(c));
        save();
        clazz(v, c, isInterface, isInterface ? 0 : superclass, interfaces);
        int n = 0;
        for (Clazz k : v.classes) {
            n += k == null ? 0 : 1;
        }
        return n;
    }

    private static boolean isSuperclass(Version v, int c) {
        for (Clazz k : v.classes) {
            if (k != null && k.superclass == c) {
                return true;
            }
        }
        return false;
    }

    int removeClass(int version, int c) {
        Version v = versionWith(version, c);
        state(c != 0);
        state(!isSuperclass(v, c));
        for (Clazz k : v.classes) {
            state(k == null || !k.interfaces.contains(c));
        }
        save();
        int before = v.members.size();
        v.members.removeIf(m -> m.owner == c);
        v.classes[c] = null;
        return before - v.members.size();
    }

    int setClass(int version, int c, int what, int value) {
        Version v = versionWith(version, c);
        Clazz k = v.classes[c];
        argument(in(what, 0, 5));
        argument(what > 2 || in(value, 0, 1));
        argument(what != 3 || in(value, 0, 3));
        argument(what != 4 || k.isInterface || goodSuperclass(v, c, value));
        argument(what != 5 || goodInterfaces(v, c, value));
        state(c != 0);
        state(!k.isInterface || what == 0 || what == 3 || what == 5);
        state(what != 1 || value == 0 || !isSuperclass(v, c));
        if (what == 2 && value == 0) {
            for (Member m : v.members) {
                state(m.owner != c || !m.isAbstract);
            }
        }
        save();
        int before = classInfo(version, c, what);
        switch (what) {
            case 0 -> k.isPublic = value == 1;
            case 1 -> k.isFinal = value == 1;
            case 2 -> k.isAbstract = value == 1;
            case 3 -> k.pack = value;
            case 4 -> k.superclass = value;
            default -> k.interfaces = set(value);
        }
        return before;
    }

    boolean exists(int version, int c) {
        Version v = version(version);
        if (!in(c, 0, 9)) {
            throw new IndexOutOfBoundsException();
        }
        return v.has(c);
    }

    private static int bit(boolean b) {
        return b ? 1 : 0;
    }

    int classInfo(int version, int c, int what) {
        Version v = versionWith(version, c);
        argument(in(what, 0, 9));
        Clazz k = v.classes[c];
        return switch (what) {
            case 0 -> bit(k.isPublic);
            case 1 -> bit(k.isFinal);
            case 2 -> bit(k.isAbstract);
            case 3 -> k.pack;
            case 4 -> k.superclass;
            case 5 -> mask(k.interfaces);
            case 6 -> bit(k.isInterface);
            case 7 -> (int) v.members.stream().filter(m -> m.owner == c).count();
            case 8 -> mask(v.supertypes(k));
            default -> bit(v.incomplete(k));
        };
    }

    int copyVersion() {
        save();
        now.versions[1] = now.versions[0].copy();
        return now.versions[1].members.size();
    }

    int draft(int result, int many, int first, int second) {
        argument(in(many, 0, 2) && in(result, -1, 9));
        List<Integer> parameters = many == 0 ? List.of() : many == 1 ? List.of(first) : List.of(first, second);
        for (int p : parameters) {
            argument(in(p, -1, 9));
        }
        int before = draftParameters.size();
        draftResult = result;
        draftParameters = parameters;
        return before;
    }

    private static boolean goodField(Version v, int c, int access, int flags) {
        return in(access, 0, 3) && in(flags, 0, 3) && (!v.classes[c].isInterface || access == 3 && flags == 3);
    }

    private static boolean goodMethod(Version v, int c, int access, int flags) {
        if (!in(access, 0, 3) || !in(flags, 0, 7)) {
            return false;
        }
        boolean isStatic = flags % 2 == 1;
        boolean isFinal = flags / 2 % 2 == 1;
        boolean isAbstract = flags / 4 == 1;
        if (isAbstract && (access == 0 || isStatic || isFinal || !v.classes[c].isAbstract)) {
            return false;
        }
        return !v.classes[c].isInterface || access == 3 && !isFinal;
    }

    private Member draftMethod(int name) {
        Member m = new Member();
        m.isMethod = true;
        m.name = name;
        m.type = draftResult;
        m.parameters = draftParameters;
        return m;
    }

    private static boolean taken(Version v, int c, Member like) {
        for (Member m : v.members) {
            if (m.owner == c && (like.isMethod ? m.sameSignature(like) : !m.isMethod && m.name == like.name)) {
                return true;
            }
        }
        return false;
    }

    int addField(int version, int c, int name, int access, int flags) {
        Version v = versionWith(version, c);
        argument(in(name, 0, 7) && goodField(v, c, access, flags));
        Member like = new Member();
        like.name = name;
        state(c != 0 && !taken(v, c, like) && v.members.size() < 40);
        save();
        member(v, false, c, name, access, flags, draftResult, List.of());
        return v.members.size() - 1;
    }

    int addMethod(int version, int c, int name, int access, int flags) {
        Version v = versionWith(version, c);
        argument(in(name, 0, 7) && goodMethod(v, c, access, flags));
        state(c != 0 && !taken(v, c, draftMethod(name)) && v.members.size() < 40);
        save();
        member(v, true, c, name, access, flags, draftResult, draftParameters);
        return v.members.size() - 1;
    }

    int removeMember(int version, int member) {
        member(version, member);
        save();
        now.versions[version].members.remove(member);
        return now.versions[version].members.size();
    }

    int setMember(int version, int member, int what, int value) {
        Member m = member(version, member);
        Version v = now.versions[version];
        boolean isInInterface = v.classes[m.owner].isInterface;
        argument(in(what, 0, 2));
        if (what == 0) {
            argument(in(value, 0, 3) && (!isInInterface || value == 3) && (!m.isAbstract || value != 0));
        } else if (what == 1) {
            argument(m.isMethod ? goodMethod(v, m.owner, m.access, value) : goodField(v, m.owner, m.access, value));
        } else {
            argument(!m.isMethod);
            argument(value == NONE || m.isStatic && m.isFinal && m.type == -1 && in(value, -99, 99));
        }
        save();
        int before = memberInfo(version, member, what);
        if (what == 0) {
            m.access = value;
        } else if (what == 1) {
            m.flags(value);
            if (!m.isStatic || !m.isFinal) {
                m.constant = null;
            }
        } else {
            m.constant = value == NONE ? null : value;
        }
        return before;
    }

    int moveMember(int version, int member, int c) {
        Member m = member(version, member);
        Version v = versionWith(version, c);
        argument(!m.isAbstract || v.classes[c].isAbstract);
        if (v.classes[c].isInterface) {
            argument(m.access == 3);
            argument(m.isMethod ? !m.isFinal : m.isStatic && m.isFinal);
        }
        state(c != 0 && !taken(v, c, m));
        save();
        int before = m.owner;
        m.owner = c;
        return before;
    }

    int members(int version) {
        return version(version).members.size();
    }

    int memberInfo(int version, int member, int what) {
        Member m = member(version, member);
        argument(in(what, 0, 9));
        return switch (what) {
            case 0 -> m.access;
            case 1 -> m.flags();
            case 2 -> m.constant == null ? NONE : m.constant;
            case 3 -> bit(m.isMethod);
            case 4 -> m.owner;
            case 5 -> m.name;
            case 6 -> m.type;
            case 7 -> m.isMethod ? m.parameters.size() : NONE;
            case 8 -> m.parameters.size() > 0 ? m.parameters.get(0) : NONE;
            default -> m.parameters.size() > 1 ? m.parameters.get(1) : NONE;
        };
    }

    boolean fits(int version, int one, int other) {
        Version v = version(version);
        argument(in(one, -1, 9) && in(other, -1, 9));
        return v.fits(one, other);
    }

    private static int number(Version v, Member m) {
        return m == null ? NONE : v.members.indexOf(m);
    }

    int field(int version, int c, int name) {
        Version v = versionWith(version, c);
        argument(in(name, 0, 7));
        return number(v, v.field(c, name, draftResult));
    }

    int method(int version, int c, int name) {
        Version v = versionWith(version, c);
        argument(in(name, 0, 7));
        return number(v, v.method(draftMethod(name), c));
    }

    int selected(int version, int member, int c) {
        Member m = member(version, member);
        Version v = versionWith(version, c);
        argument(m.isMethod && !m.isStatic && !v.classes[c].isInterface && v.isSupertype(m.owner, c));
        return number(v, v.selected(m, v.classes[c]));
    }

    int addClient(int use, int c, int name, int itsPackage) {
        argument(in(use, 0, 5) && in(c, 0, 9) && in(itsPackage, 0, 3) && (use > 2 || in(name, 0, 7)));
        User u = user(use, c, name, itsPackage, use == 2 ? draftParameters : List.of());
        argument(error(u, now.versions[0]) == 0);
        u.symbol = lastSymbol;
        state(now.users.size() < 12);
        save();
        now.users.add(u);
        return now.users.size() - 1;
    }

    private static User user(int use, int c, int name, int pack, List<Integer> arguments) {
        User u = new User();
        u.use = use;
        u.c = c;
        u.name = name;
        u.pack = pack;
        u.arguments = arguments;
        return u;
    }

    int setBase(int client, int base) {
        User u = user(client);
        Version v = now.versions[0];
        argument(v.has(base) && !v.classes[base].isInterface && !v.classes[base].isFinal && v.classOpen(base, u));
        User changed = u.copy();
        changed.base = base;
        argument(error(changed, v) == 0);
        changed.symbol = lastSymbol;
        save();
        now.users.set(client, changed);
        return u.base;
    }

    int removeClient(int client) {
        user(client);
        save();
        now.users.remove(client);
        return now.users.size();
    }

    int clients() {
        return now.users.size();
    }

    int clientInfo(int client, int what) {
        User u = user(client);
        argument(in(what, 0, 9));
        Sym s = u.symbol;
        return switch (what) {
            case 0 -> u.use;
            case 1 -> u.c;
            case 2 -> u.use <= 2 ? u.name : NONE;
            case 3 -> u.pack;
            case 4 -> u.base;
            case 5 -> u.use == 2 ? u.arguments.size() : NONE;
            case 6 -> s != null && s.isConstant ? 1 : 0;
            case 7 -> s != null && s.isConstant ? s.constant : NONE;
            case 8 -> s == null || s.isConstant ? NONE : s.type;
            default -> s == null || s.isConstant ? NONE : bit(s.isStatic);
        };
    }

    /** Compiles; the symbol lies in lastSymbol then (null for the uses without one). */
    private int error(User u, Version v) {
        lastSymbol = null;
        if (!v.has(u.c)) {
            return 1;
        }
        if (!v.classOpen(u.c, u)) {
            return 2;
        }
        Clazz k = v.classes[u.c];
        switch (u.use) {
            case 0, 1: {
                Member f = v.field(u.c, u.name, null);
                if (f == null) {
                    return 3;
                }
                if (!v.memberOpen(f, u)) {
                    return 5;
                }
                if (u.use == 1 && f.isFinal) {
                    return 6;
                }
                lastSymbol = u.use == 0 && f.constant != null
                        ? new Sym(true, f.constant, 0, null, null, null, null)
                        : new Sym(false, 0, u.name, f.type, f.isStatic, null, null);
                return 0;
            }
            case 2:
                return callError(u, v);
            case 3:
                return k.isAbstract ? 6 : 0;
            case 4:
                return k.isInterface || k.isFinal ? 6 : v.incomplete(k) ? 7 : 0;
            default:
                if (!k.isInterface) {
                    return 6;
                }
                if (!v.has(u.base) || v.classes[u.base].isInterface || v.classes[u.base].isFinal
                        || !v.classOpen(u.base, u)) {
                    return 8;
                }
                return v.pairIncomplete(u) ? 7 : 0;
        }
    }

    private int callError(User u, Version v) {
        TreeSet<Integer> types = v.supertypes(v.classes[u.c]);
        List<Member> applicable = new ArrayList<>();
        for (Member m : v.members) {
            if (m.isMethod && types.contains(m.owner) && m.name == u.name
                    && m.parameters.size() == u.arguments.size() && v.memberOpen(m, u) && m.access != 0
                    && !(m.isStatic && v.classes[m.owner].isInterface && m.owner != u.c)
                    && !overridden(m, types, v) && allFit(u.arguments, m.parameters, v)) {
                applicable.add(m);
            }
        }
        if (applicable.isEmpty()) {
            return 3;
        }
        List<Member> best = new ArrayList<>();
        for (Member m : applicable) {
            if (applicable.stream().allMatch(o -> o == m || allFit(m.parameters, o.parameters, v))) {
                best.add(m);
            }
        }
        if (best.isEmpty()) {
            return 4;
        }
        Member taken = Version.onlyConcrete(best);
        if (taken == null) {
            taken = best.get(0);
        }
        lastSymbol = new Sym(false, 0, u.name, taken.type, taken.isStatic, taken.parameters,
                v.classes[u.c].isInterface);
        return 0;
    }

    private static boolean overridden(Member m, TreeSet<Integer> types, Version v) {
        for (int t : types) {
            if (t != m.owner && v.isSupertype(m.owner, t)) {
                for (Member o : v.members) {
                    if (o.owner == t && o.sameSignature(m) && o.access != 0) {
                        return true;
                    }
                }
            }
        }
        return false;
    }

    private static boolean allFit(List<Integer> ones, List<Integer> others, Version v) {
        for (int i = 0; i < ones.size(); i++) {
            if (!v.fits(ones.get(i), others.get(i))) {
                return false;
            }
        }
        return true;
    }

    int compile(int client, int version) {
        User u = user(client);
        return error(u, version(version));
    }

    /** The error in [0], the target in [1]. */
    private static int[] linked(User u, Version v) {
        if (u.symbol != null && u.symbol.isConstant) {
            return new int[] {0, NONE};
        }
        if (!v.has(u.c)) {
            return new int[] {1, NONE};
        }
        if (!v.classOpen(u.c, u)) {
            return new int[] {2, NONE};
        }
        Clazz k = v.classes[u.c];
        int error = 0;
        switch (u.use) {
            case 0, 1: {
                Member f = v.field(u.c, u.name, u.symbol.type);
                error = f == null ? 3 : !v.memberOpen(f, u) ? 2 : f.isStatic != u.symbol.isStatic ? 5
                        : u.use == 1 && f.isFinal ? 2 : 0;
                return new int[] {error, error == 0 ? f.owner : NONE};
            }
            case 2: {
                if (k.isInterface != u.symbol.ofInterface) {
                    return new int[] {5, NONE};
                }
                Member like = new Member();
                like.isMethod = true;
                like.name = u.name;
                like.type = u.symbol.type;
                like.parameters = u.symbol.parameters;
                Member m = v.method(like, u.c);
                if (m == null) {
                    error = 4;
                } else if (m.access == 0 || !v.memberOpen(m, u)) {
                    error = 2;
                } else if (m.isStatic != u.symbol.isStatic) {
                    error = 5;
                } else if (!k.isInterface && !k.isAbstract && !m.isStatic) {
                    Member s = v.selected(m, k);
                    error = s == null || s.isAbstract ? 6 : 0;
                }
                return new int[] {error, error == 0 ? m.owner : NONE};
            }
            case 3:
                return new int[] {k.isAbstract ? 7 : 0, NONE};
            case 4:
                return new int[] {k.isInterface || k.isFinal ? 5 : v.incomplete(k) ? 6 : 0, NONE};
            default:
                if (!k.isInterface) {
                    error = 5;
                } else if (!v.has(u.base)) {
                    error = 1;
                } else if (!v.classOpen(u.base, u)) {
                    error = 2;
                } else if (v.classes[u.base].isInterface || v.classes[u.base].isFinal) {
                    error = 5;
                } else if (v.pairIncomplete(u)) {
                    error = 6;
                }
                return new int[] {error, NONE};
        }
    }

    int link(int client, int version) {
        User u = user(client);
        return linked(u, version(version))[0];
    }

    int target(int client, int version) {
        User u = user(client);
        return linked(u, version(version))[1];
    }

    private int verdict(User u) {
        int[] old = linked(u, now.versions[0]);
        int[] young = linked(u, now.versions[1]);
        if (young[0] != 0 && young[0] != 6) {
            return 1;
        }
        if (young[0] == 6) {
            return 2;
        }
        if (error(u, now.versions[1]) != 0) {
            return 3;
        }
        if (!Objects.equals(lastSymbol, u.symbol)) {
            return 4;
        }
        return old[1] != young[1] || old[0] != 0 ? 5 : 0;
    }

    int verdict(int client) {
        return verdict(user(client));
    }

    int count(int verdict) {
        argument(in(verdict, 0, 5));
        int n = 0;
        for (User u : now.users) {
            n += bit(verdict(u) == verdict);
        }
        return n;
    }

    int sample(int verdict, int itsPackage, int what) {
        argument(in(verdict, 1, 5) && in(itsPackage, 0, 3) && in(what, 0, 5));
        List<List<Integer>> lists = new ArrayList<>();
        lists.add(List.of());
        for (int first = -1; first <= 9; first++) {
            lists.add(List.of(first));
        }
        for (int first = -1; first <= 9; first++) {
            for (int second = -1; second <= 9; second++) {
                lists.add(List.of(first, second));
            }
        }
        for (int use = 0; use <= 5; use++) {
            for (int c = 0; c <= 9; c++) {
                for (int name = 0; name <= (use <= 2 ? 7 : 0); name++) {
                    for (List<Integer> arguments : use == 2 ? lists : List.of(List.<Integer>of())) {
                        User u = user(use, c, name, itsPackage, arguments);
                        if (error(u, now.versions[0]) == 0) {
                            u.symbol = lastSymbol;
                            if (verdict(u) == verdict) {
                                return sampleInfo(u, what);
                            }
                        }
                    }
                }
            }
        }
        return NONE;
    }

    private static int sampleInfo(User u, int what) {
        return switch (what) {
            case 0 -> u.use;
            case 1 -> u.c;
            case 2 -> u.use <= 2 ? u.name : NONE;
            case 3 -> u.use == 2 ? u.arguments.size() : NONE;
            case 4 -> u.arguments.size() > 0 ? u.arguments.get(0) : NONE;
            default -> u.arguments.size() > 1 ? u.arguments.get(1) : NONE;
        };
    }

    int undo() {
        state(!saved.isEmpty());
        now = saved.removeLast();
        return saved.size();
    }

    long checksum() {
        List<Integer> numbers = new ArrayList<>();
        for (int version = 0; version < 2; version++) {
            for (int c = 0; c <= 9; c++) {
                if (!exists(version, c)) {
                    numbers.add(-3);
                    continue;
                }
                for (int what = 0; what <= 9; what++) {
                    numbers.add(classInfo(version, c, what));
                }
            }
            numbers.add(members(version));
            for (int m = 0; m < members(version); m++) {
                for (int what = 0; what <= 9; what++) {
                    numbers.add(memberInfo(version, m, what));
                }
            }
        }
        numbers.add(clients());
        for (int k = 0; k < clients(); k++) {
            for (int what = 0; what <= 9; what++) {
                numbers.add(clientInfo(k, what));
            }
            numbers.addAll(List.of(compile(k, 0), compile(k, 1), link(k, 0), link(k, 1), target(k, 0), target(k, 1),
                    verdict(k)));
        }
        numbers.addAll(List.of(draftResult, draftParameters.size(), saved.size()));
        long h = 17317;
        for (int v : numbers) {
            h = 31 * h + v;
        }
        return h;
    }
}

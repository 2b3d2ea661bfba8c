import java.util.ArrayList;
import java.util.LinkedHashSet;
import java.util.List;

/** The document's words put into code as plainly as they can be, to compare answers with. */
final class Model {
    private static final class Type {
        int number;
        Type parent;
        int pack;
        boolean face;
        final List<Type> implemented = new ArrayList<>();
        final List<Method> methods = new ArrayList<>();
    }

    private static final class Method {
        int number;
        Type type;
        int name;
        int sight;
        boolean isStatic;
        boolean isFinal;
        boolean isAbstract;
    }

    private final List<Type> types = new ArrayList<>();
    private final List<Method> methods = new ArrayList<>();

    Model() {
        types.add(new Type());
    }

    int types() {
        return types.size();
    }

    int methods() {
        return methods.size();
    }

    boolean isFace(int c) {
        return type(c) != null && type(c).face;
    }

    int ownerOf(int m) {
        return methodAt(m) == null ? -1 : methodAt(m).type.number;
    }

    private Type type(int c) {
        return c >= 0 && c < types.size() ? types.get(c) : null;
    }

    private Method methodAt(int m) {
        return m >= 0 && m < methods.size() ? methods.get(m) : null;
    }

    private Type latest() {
        return types.get(types.size() - 1);
    }

    private static boolean isBelow(Type c, Type k) {
        if (c.parent != null && (c.parent == k || isBelow(c.parent, k))) {
            return true;
        }
        for (Type f : c.implemented) {
            if (f == k || isBelow(f, k)) {
                return true;
            }
        }
        return false;
    }

    private static List<Type> faces(Type c) {
        LinkedHashSet<Type> faces = new LinkedHashSet<>();
        for (Type f : c.implemented) {
            faces.add(f);
            faces.addAll(faces(f));
        }
        if (c.parent != null) {
            faces.addAll(faces(c.parent));
        }
        return new ArrayList<>(faces);
    }

    private static List<Type> row(Type c) {
        List<Type> row = new ArrayList<>();
        row.add(c);
        for (Type k = c.parent; k != null && !c.face; k = k.parent) {
            row.add(k);
        }
        return row;
    }

    private static Method own(Type c, int name) {
        for (Method m : c.methods) {
            if (m.name == name) {
                return m;
            }
        }
        return null;
    }

    private static boolean over(Method a, Method b) {
        if (a == b || a.name != b.name || a.type == b.type) {
            return false;
        }
        if (a.isStatic || b.isStatic || a.sight == 3 || b.sight == 3) {
            return false;
        }
        if (b.sight == 1 || b.sight == 2 || a.type.pack == b.type.pack) {
            return true;
        }
        for (Type k = a.type.parent; k != null && k != b.type; k = k.parent) {
            Method x = own(k, a.name);
            if (x != null && k.pack == b.type.pack && over(a, x)) {
                return true;
            }
        }
        return false;
    }

    private static List<Method> nearest(Type c, int name) {
        List<Type> faces = faces(c);
        List<Method> nearest = new ArrayList<>();
        for (Type f : faces) {
            boolean good = own(f, name) != null;
            for (Type g : faces) {
                good = good && !(isBelow(g, f) && own(g, name) != null);
            }
            if (good) {
                nearest.add(own(f, name));
            }
        }
        return nearest;
    }

    private static List<Method> concreteNearest(Type c, int name) {
        List<Method> concrete = new ArrayList<>();
        for (Method m : nearest(c, name)) {
            if (!m.isAbstract) {
                concrete.add(m);
            }
        }
        return concrete;
    }

    int add(int parent, int pack, int kind) {
        if (type(parent) == null || type(parent).face) {
            return -14;
        }
        if (pack < 0 || pack > 9 || (kind != 0 && kind != 1) || (kind == 1 && parent != 0)) {
            return -1;
        }
        if (types.size() == 60) {
            return -12;
        }
        Type c = new Type();
        c.number = types.size();
        c.parent = type(parent);
        c.pack = pack;
        c.face = kind == 1;
        types.add(c);
        return c.number;
    }

    int implement(int c, int f) {
        if (type(c) == null || type(f) == null || type(c) != latest() || f == c || !type(f).face) {
            return -14;
        }
        if (type(c).implemented.contains(type(f)) || !type(c).methods.isEmpty()) {
            return -1;
        }
        if (type(c).implemented.size() == 20) {
            return -12;
        }
        type(c).implemented.add(type(f));
        return type(c).implemented.size();
    }

    int method(int c, int name, int sight, int kind) {
        if (type(c) != latest() || c == 0) {
            return -14;
        }
        if (name < 0 || name > 31 || sight < 0 || sight > 3 || kind < 0 || kind > 7) {
            return -1;
        }
        Method m = new Method();
        m.isStatic = (kind & 1) != 0;
        m.isFinal = (kind & 2) != 0;
        m.isAbstract = (kind & 4) != 0;
        if (m.isAbstract && (m.isStatic || m.isFinal || sight == 3)) {
            return -1;
        }
        if (type(c).face && (sight != 1 || m.isStatic || m.isFinal)) {
            return -1;
        }
        if (own(type(c), name) != null) {
            return -1;
        }
        if (methods.size() == 400) {
            return -12;
        }
        m.number = methods.size();
        m.type = type(c);
        m.name = name;
        m.sight = sight;
        type(c).methods.add(m);
        methods.add(m);
        return m.number;
    }

    boolean isBelow(int c, int k) {
        return type(c) != null && type(k) != null && (c == k || isBelow(type(c), type(k)));
    }

    int face(int c, int i) {
        if (type(c) == null || i < 0 || i >= faces(type(c)).size()) {
            return -1;
        }
        return faces(type(c)).get(i).number;
    }

    boolean overrides(int a, int b) {
        return methodAt(a) != null && methodAt(b) != null && over(methodAt(a), methodAt(b));
    }

    int broken(int c) {
        if (type(c) == null) {
            return -1;
        }
        for (Method m : type(c).methods) {
            for (Type k : row(type(c))) {
                Method x = own(k, m.name);
                if (k != type(c) && x != null && x.isFinal && over(m, x)) {
                    return m.number;
                }
            }
        }
        return -1;
    }

    int nearest(int c, int name, int i) {
        if (type(c) == null || i < 0 || i >= nearest(type(c), name).size()) {
            return -1;
        }
        return nearest(type(c), name).get(i).number;
    }

    int find(int c, int name) {
        if (type(c) == null) {
            return -14;
        }
        for (Type k : row(type(c))) {
            if (own(k, name) != null) {
                return own(k, name).number;
            }
        }
        List<Method> concrete = concreteNearest(type(c), name);
        if (concrete.size() == 1) {
            return concrete.get(0).number;
        }
        for (Type f : faces(type(c))) {
            if (own(f, name) != null) {
                return own(f, name).number;
            }
        }
        return -1;
    }

    int choose(int c, int m) {
        if (type(c) == null || type(c).face || methodAt(m) == null || methodAt(m).isStatic) {
            return -14;
        }
        Method goal = methodAt(m);
        if (goal.type != type(c) && !isBelow(type(c), goal.type)) {
            return -14;
        }
        if (goal.sight == 3) {
            return m;
        }
        for (Type k : row(type(c))) {
            Method x = own(k, goal.name);
            if (x != null && (x == goal || over(x, goal))) {
                return x.isAbstract ? -25 : x.number;
            }
        }
        List<Method> concrete = concreteNearest(type(c), goal.name);
        return concrete.isEmpty() ? -25 : concrete.size() > 1 ? -26 : concrete.get(0).number;
    }

    int special(int d, int c, int name) {
        if (type(d) == null || type(d).face || type(c) == null || type(c).face) {
            return -14;
        }
        if (find(c, name) < 0) {
            return -12;
        }
        Method found = methodAt(find(c, name));
        if (found.isStatic) {
            return -21;
        }
        boolean fromC = found.sight == 3 || d == c || !isBelow(type(d), type(c));
        Type start = fromC ? type(c) : type(d).parent;
        for (Type k : row(start)) {
            Method x = own(k, name);
            if (x != null && !x.isStatic) {
                return x.isAbstract ? -25 : x.number;
            }
        }
        List<Method> concrete = concreteNearest(start, name);
        return concrete.size() == 1 ? concrete.get(0).number : -25;
    }

    int kin(int m) {
        if (methodAt(m) == null) {
            return -1;
        }
        Method goal = methodAt(m);
        LinkedHashSet<Method> kin = new LinkedHashSet<>();
        for (Method x : methods) {
            if (isBelow(x.type, goal.type) && over(x, goal)) {
                kin.add(x);
            }
            if (!x.type.face && over(goal, x)) {
                kin.add(x);
            }
        }
        return kin.size();
    }
}

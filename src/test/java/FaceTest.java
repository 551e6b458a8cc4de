import java.lang.reflect.Constructor;
import java.lang.reflect.Field;
import java.lang.reflect.Method;
import java.lang.reflect.Modifier;
import java.util.Set;
import java.util.TreeSet;

/** The public face: just the constants, the constructor and the methods that the document gives. */
public final class FaceTest {
    private static final String[] METHODS = {
        "int row(int,int)", "int lay(int,int,int)", "int at(int,int)", "int tear(int)", "int copy(int,int,int,int,int)",
        "int mean(int)", "int text(int,int)", "int put(int,int,int)", "int fault(int)", "int book(int)", "int wear(int)",
        "int lodger(int,int)", "int trunk(int,int)", "int thing(int,int,int,int,int)", "int lies(int,int,boolean)",
        "int told(int,int)", "int mark(int,int)", "int may(int)", "int fewest()", "int fits()", "int opens(int)",
        "int strange()", "int water()", "int piling(int)", "int share(int)", "int ways(int)", "int whose(int,int)",
        "int sure(int)", "int next(int)", "int moves(int,int)", "int line(int,int,int)", "int readings()", "int lineOf(int)",
        "int bit(int,int,int,int)", "int joins(int,int)", "int sheets(int)", "int laid()", "int travellers()",
        "int journey(int)", "int claim(int,int,int)", "int judge(int)", "int heir(int,int)", "int asked()", "long many()",
        "int count(int)", "int finding()", "int findings(int)", "long digest()"};
    private static final String[] CONSTANTS = {"BAD", "FULL", "FINDING", "STATE", "SPENT", "NONE"};

    public static void main(String[] args) {
        Class<?> face = LostRoom.class;
        Check.due("class is public", Modifier.isPublic(face.getModifiers()) ? 1 : 0, 1);
        Check.due("class is final", Modifier.isFinal(face.getModifiers()) ? 1 : 0, 1);
        constants();
        constructor(face);
        methods(face);
        fields(face);
        classesInside(face);
        Check.end();
    }

    private static void constants() {
        Check.due("BAD", LostRoom.BAD, -1);
        Check.due("FULL", LostRoom.FULL, -2);
        Check.due("FINDING", LostRoom.FINDING, -3);
        Check.due("STATE", LostRoom.STATE, -4);
        Check.due("SPENT", LostRoom.SPENT, -6);
        Check.due("NONE", LostRoom.NONE, -9);
    }

    private static void constructor(Class<?> face) {
        Constructor<?>[] all = face.getDeclaredConstructors();
        Check.due("constructors", all.length, 1);
        Check.due("constructor is public", Modifier.isPublic(all[0].getModifiers()) ? 1 : 0, 1);
        Check.due("constructor's parameters", all[0].getParameterCount(), 0);
    }

    private static void methods(Class<?> face) {
        Set<String> due = new TreeSet<>(Set.of(METHODS));
        Set<String> names = new TreeSet<>();
        for (String one : METHODS) names.add(one.substring(one.indexOf(' ') + 1, one.indexOf('(')));
        Check.due("methods of the document", due.size(), 48);
        for (Method m : face.getDeclaredMethods()) {
            int is = m.getModifiers();
            if (Modifier.isPrivate(is)) {
                Check.due("private method with a public one's name: " + m.getName(), names.contains(m.getName()) ? 1 : 0, 0);
                continue;
            }
            Check.due("method not of the document: " + said(m), due.remove(said(m)) && !Modifier.isStatic(is) ? 1 : 0, 1);
            Check.due("method is public: " + said(m), Modifier.isPublic(is) ? 1 : 0, 1);
        }
        for (String one : due) Check.due("method missing: " + one, 0, 1);
    }

    private static String said(Method m) {
        StringBuilder all = new StringBuilder(m.getReturnType().getName()).append(' ').append(m.getName()).append('(');
        for (int i = 0; i < m.getParameterCount(); i++) all.append(i == 0 ? "" : ",").append(m.getParameterTypes()[i].getName());
        return all.append(')').toString();
    }

    private static void fields(Class<?> face) {
        Set<String> due = new TreeSet<>(Set.of(CONSTANTS));
        for (Field f : face.getDeclaredFields()) {
            int is = f.getModifiers();
            if (Modifier.isStatic(is)) Check.due("static field is final: " + f.getName(), Modifier.isFinal(is) ? 1 : 0, 1);
            if (Modifier.isPrivate(is)) continue;
            boolean told = due.remove(f.getName()) && Modifier.isPublic(is) && Modifier.isStatic(is) && f.getType() == int.class;
            Check.due("field not of the document: " + f.getName(), told ? 1 : 0, 1);
        }
        Check.due("constants missing", due.size(), 0);
    }

    private static void classesInside(Class<?> face) {
        for (Class<?> inside : face.getDeclaredClasses()) {
            int is = inside.getModifiers();
            Check.due("class inside is static: " + inside.getName(), Modifier.isStatic(is) ? 1 : 0, 1);
            Check.due("class inside is hidden: " + inside.getName(), Modifier.isPublic(is) || Modifier.isProtected(is) ? 1 : 0, 0);
        }
    }
}

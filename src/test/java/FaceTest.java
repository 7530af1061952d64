import java.lang.reflect.Constructor;
import java.lang.reflect.Field;
import java.lang.reflect.Method;
import java.lang.reflect.Modifier;
import java.util.Set;
import java.util.TreeSet;

/** The class has the document's face and no other member that can be seen from outside. */
final class FaceTest {
    private static final Due DUE = new Due();
    private static final String A = "IllegalArgumentException";
    private static final String I = "IndexOutOfBoundsException";
    private static final String S = "IllegalStateException";
    private static final String U = "UnsupportedOperationException";

    private static final String[] FACE = {
        line("int station(int)", I, U),
        line("int temporary(int,int,int)", I, U),
        line("int vehicle(int,int,int)", A, I, U),
        line("void out(int,int,int)", A, I, S, U),
        line("int person(int,int)", A, I, U),
        line("void duty(int,int,int)", A, I, S, U),
        line("void move(int,int,int,int)", A, I, S, U),
        line("int limit(int)", I),
        line("int on(int,int)", A, I),
        line("int at(int,int,int)", A, I),
        line("int vehicleAt(int,int,int)", A, I),
        line("void need(int,int,int)", A, I),
        line("int lacks(int,int)", A, I),
        line("void period(int,int,int)", A, I),
        line("void check(int,int,int)", A, I, U),
        line("int missing(int,int)", I),
        line("void key(int,int,boolean)", A, I, S),
        line("int holder(int,int)", I),
        line("int twice()"),
    };

    public static void main(String[] args) {
        classIsPublicAndFinal();
        methodsAreTheFace();
        privateNamesAreOthers();
        fieldsAreHidden();
        constructorIsPublic();
        DUE.end();
    }

    private static void classIsPublicAndFinal() {
        int modifiers = StationRows.class.getModifiers();
        DUE.same("public", Modifier.isPublic(modifiers) ? 1 : 0, 1);
        DUE.same("final", Modifier.isFinal(modifiers) ? 1 : 0, 1);
    }

    private static void methodsAreTheFace() {
        Set<String> want = new TreeSet<>(Set.of(FACE));
        Set<String> got = new TreeSet<>();
        for (Method m : StationRows.class.getDeclaredMethods()) {
            if (!Modifier.isPrivate(m.getModifiers())) {
                got.add(lineOf(m));
                DUE.same(m + " is public and not static", m.getModifiers(), Modifier.PUBLIC);
            }
        }
        if (!got.equals(want)) {
            DUE.tell("the face is " + got + ", due is " + want);
        }
    }

    private static void privateNamesAreOthers() {
        Set<String> names = new TreeSet<>();
        for (String line : FACE) {
            names.add(line.substring(line.indexOf(' ') + 1, line.indexOf('(')));
        }
        for (Method m : StationRows.class.getDeclaredMethods()) {
            if (Modifier.isPrivate(m.getModifiers()) && names.contains(m.getName())) {
                DUE.tell("private " + m.getName() + " bears the name of a public method");
            }
        }
    }

    private static void fieldsAreHidden() {
        for (Field f : StationRows.class.getDeclaredFields()) {
            DUE.same(f + " is private", Modifier.isPrivate(f.getModifiers()) ? 1 : 0, 1);
            DUE.same(f + " is final", Modifier.isFinal(f.getModifiers()) ? 1 : 0, 1);
        }
    }

    private static void constructorIsPublic() {
        Constructor<?>[] all = StationRows.class.getDeclaredConstructors();
        DUE.same("one constructor", all.length, 1);
        DUE.same("public constructor", all[0].getModifiers(), Modifier.PUBLIC);
        DUE.same("without parameters", all[0].getParameterCount(), 0);
    }

    private static String line(String signature, String... thrown) {
        return signature + new TreeSet<>(Set.of(thrown));
    }

    private static String lineOf(Method m) {
        StringBuilder types = new StringBuilder();
        for (Class<?> type : m.getParameterTypes()) {
            types.append(types.length() == 0 ? "" : ",").append(type.getName());
        }
        Set<String> thrown = new TreeSet<>();
        for (Class<?> type : m.getExceptionTypes()) {
            thrown.add(type.getSimpleName());
        }
        return m.getReturnType().getName() + " " + m.getName() + "(" + types + ")" + thrown;
    }
}
